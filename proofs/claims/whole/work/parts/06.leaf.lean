/-- Integer.numberOfTrailingZeros, as its code has it -/
def ntz5 (n x : Int32) : Int32 := n + (x.toUInt32 >>> ((1 : Int32).toUInt32 &&& Int32.toUInt32 31)).toInt32
def ntz4 (n x : Int32) : Int32 := if x ≤ 4 then ntz5 n x else ntz5 (n + 2) (x.toUInt32 >>> ((2 : Int32).toUInt32 &&& Int32.toUInt32 31)).toInt32
def ntz3 (n x : Int32) : Int32 := if x ≤ 16 then ntz4 n x else ntz4 (n + 4) (x.toUInt32 >>> ((4 : Int32).toUInt32 &&& Int32.toUInt32 31)).toInt32
def ntz2 (n x : Int32) : Int32 := if x ≤ 256 then ntz3 n x else ntz3 (n + 8) (x.toUInt32 >>> ((8 : Int32).toUInt32 &&& Int32.toUInt32 31)).toInt32
def ntz1 (z0 : Int32) : Int32 := if 0 < z0 then (if z0 ≤ 65536 then ntz2 1 z0 else ntz2 (1 + 16) (z0.toUInt32 >>> ((16 : Int32).toUInt32 &&& Int32.toUInt32 31)).toInt32) else z0 &&& 32
def ntz (x : Int32) : Int32 := ntz1 ((x ^^^ (-1)) &&& (x - 1))
theorem bI_one {b : Bool} (h : b = true) : (1 : Int32) = bI b := by rw [h]; rfl
theorem bI_zero {b : Bool} (h : b = false) : (0 : Int32) = bI b := by rw [h]; rfl
/-- Integer.bitCount, as its code has it -/
def bitC (x : Int32) : Int32 :=
  let z1 := x - ((x.toUInt32 >>> ((1 : Int32).toUInt32 &&& Int32.toUInt32 31)).toInt32 &&& 1431655765)
  let z2 := (z1 &&& 858993459) + ((z1.toUInt32 >>> ((2 : Int32).toUInt32 &&& Int32.toUInt32 31)).toInt32 &&& 858993459)
  let z3 := (z2 + (z2.toUInt32 >>> ((4 : Int32).toUInt32 &&& Int32.toUInt32 31)).toInt32) &&& 252645135
  let z4 := z3 + (z3.toUInt32 >>> ((8 : Int32).toUInt32 &&& Int32.toUInt32 31)).toInt32
  let z5 := z4 + (z4.toUInt32 >>> ((16 : Int32).toUInt32 &&& Int32.toUInt32 31)).toInt32
  z5 &&& 63
theorem in_Jx4a65c_size_8abf5_Jx4a65c : ∀ w ∈ u_ws RJx4a65c TJx4a65c 3, w ∈ wsJx4a65c_size_8abf5 := by decide +kernel
set_option maxHeartbeats 4000000 in
set_option maxRecDepth 100000 in
/-- ArrayList.size() -/
theorem c_size0 (l : Launch) (E : gE) (A : Nat → Prop) (g : Nat → Nat) (M : gM) (tl : Nat) (mc : Int32) (el : Nat) (n : Int32) (h : M tl = some (.inr (0, [.int mc, .ref el, .int n]))) : Met l yJx4a65c_size_8abf5 wsJx4a65c_size_8abf5 ({ frames := 0, cells := 0, slots := 0, locals := 0 } : Room) (Pm E [.ref (g tl)] (mP E A g M)) (k2_QcV (.int n)) 0 0 (fun _ => False) := by
  refine m_entry (by decide) rfl (Nat.le_of_ble_eq_true rfl) ?_
  intro p e s m args below meth c hx hb hr hml hts hown hlocks hin hM hK ls hl
  have hl : lv_has ls 1 [(0, .ref (g tl))] := hl
  have hown : s.vm.findClass RJx4a65c = some m.cls := hown
  refine lv_aload_n hx hb dJx4a65c_size_8abf5_0 rfl (lv_at hl 0 rfl) ?_
  refine m_get hx hb hts in_Jx4a65c_size_8abf5_Jx4a65c hown hK hM h rfl 2 (by decide) (by decide +kernel) rfl dJx4a65c_size_8abf5_1 ?_
  exact r_i hx hb hr hlocks dJx4a65c_size_8abf5_4 (by first | rfl | assumption)
set_option maxHeartbeats 4000000 in
set_option maxRecDepth 100000 in
/-- Preconditions.checkIndex(i, n, null) where i is an index -/
theorem c_checkIndex3 (l : Launch) (E : gE) (A : Nat → Prop) (g : Nat → Nat) (M : gM) (i n : Int32) (h0 : ¬ i < 0) (h1 : i < n) : Met l yJ3_checkIndex_8e157 wsJ3_checkIndex_8e157 ({ frames := 0, cells := 0, slots := 0, locals := 0 } : Room) (Pm E [.int i, .int n, .null] (fun _ => True)) (k2_QcV (.int i)) 0 0 (fun _ => False) := by
  refine m_entry (by decide) rfl (Nat.le_of_ble_eq_true rfl) ?_
  intro p e s m args below meth c hx hb hr hml hts hown hlocks hin _ hK ls hl
  have hl : lv_has ls 3 [(0, .int i), (1, .int n), (2, .null)] := hl
  have hown : s.vm.findClass RJ3 = some m.cls := hown
  refine lv_iload_n hx hb dJ3_checkIndex_8e157_0 rfl (lv_at hl 0 rfl) ?_
  refine lv_if_lt (tgt := 9) hx hb dJ3_checkIndex_8e157_1 (by decide) (fun c9 => absurd c9 h0) (fun c1 => ?_)
  refine lv_iload_n hx hb dJ3_checkIndex_8e157_4 rfl (lv_at hl 0 rfl) ?_
  refine lv_iload_n hx hb dJ3_checkIndex_8e157_5 rfl (lv_at hl 1 rfl) ?_
  refine lv_icmp_lt (tgt := 16) hx hb dJ3_checkIndex_8e157_6 (by decide) (fun c6 => ?_) (fun c9 => absurd h1 c9)
  refine lv_iload_n hx hb dJ3_checkIndex_8e157_16 rfl (lv_at hl 0 rfl) ?_
  exact r_i hx hb hr hlocks dJ3_checkIndex_8e157_17 (by first | rfl | assumption)
set_option maxHeartbeats 4000000 in
set_option maxRecDepth 100000 in
theorem c_checkIndex2 (l : Launch) (E : gE) (A : Nat → Prop) (g : Nat → Nat) (M : gM) (i n : Int32) (h0 : ¬ i < 0) (h1 : i < n) : Met l yJ15_checkIndex_7cf53 wsJ15_checkIndex_7cf53 ({ frames := 1, cells := 0, slots := 0, locals := 22 } : Room) (Pm E [.int i, .int n] (fun _ => True)) (k2_QcV (.int i)) 0 0 (fun _ => False) := by
  refine m_entry (by decide) rfl (Nat.le_of_ble_eq_true rfl) ?_
  intro p e s m args below meth c hx hb hr hml hts hown hlocks hin _ hK ls hl
  have hl : lv_has ls 2 [(0, .int i), (1, .int n)] := hl
  have hown : s.vm.findClass RJ15 = some m.cls := hown
  refine lv_iload_n hx hb dJ15_checkIndex_7cf53_0 rfl (lv_at hl 0 rfl) ?_
  refine lv_iload_n hx hb dJ15_checkIndex_7cf53_1 rfl (lv_at hl 1 rfl) ?_
  refine lv_null hx hb dJ15_checkIndex_7cf53_2 ?_
  refine m_cS 3 [.int i, .int n, .null] [] hx hb hml hown hts hK (c_checkIndex3 l E A g M i n h0 h1) gJ15_checkIndex_7cf53_J3_checkIndex_8e157 rfl rfl rfl (by decide +kernel) rfl ⟨Nat.le_of_ble_eq_true rfl, Nat.le_of_ble_eq_true rfl⟩ trivial hl.1 (Nat.le_of_ble_eq_true rfl) ⟨Nat.le_of_ble_eq_true rfl, Nat.le_of_ble_eq_true rfl⟩ rfl dJ15_checkIndex_7cf53_3 ?_
  exact r_i hx hb hr hlocks dJ15_checkIndex_7cf53_6 (by first | rfl | assumption)
theorem in_Jx4a65c_elementData_915e3_Jx4a65c : ∀ w ∈ u_ws RJx4a65c TJx4a65c 3, w ∈ wsJx4a65c_elementData_915e3 := by decide +kernel
set_option maxHeartbeats 4000000 in
set_option maxRecDepth 100000 in
theorem c_elementData (l : Launch) (E : gE) (A : Nat → Prop) (g : Nat → Nat) (M : gM) (tl te cap : Nat) (mc : Int32) (n : Nat) (f : Nat → Option Nat) (h : M tl = some (.inr (0, [.int mc, .ref (g te), .int (nI n)]))) (h2 : M te = some (.inl (E.2.2.2.1, cap, .inr (.inr (.inr (.inr f)))))) (i a : Nat) (hi : i < n) (hn : n ≤ cap) (hc : cap ≤ 15) (ha : f i = some a) : Met l yJx4a65c_elementData_915e3 wsJx4a65c_elementData_915e3 ({ frames := 0, cells := 0, slots := 0, locals := 0 } : Room) (Pm E [.ref (g tl), .int (nI i)] (mP E A g M)) (k2_QcV (.ref a)) 0 0 (fun _ => False) := by
  refine m_entry (by decide) rfl (Nat.le_of_ble_eq_true rfl) ?_
  intro p e s m args below meth c hx hb hr hml hts hown hlocks hin hM hK ls hl
  have hl : lv_has ls 2 [(0, .ref (g tl)), (1, .int (nI i))] := hl
  have hown : s.vm.findClass RJx4a65c = some m.cls := hown
  refine lv_aload_n hx hb dJx4a65c_elementData_915e3_0 rfl (lv_at hl 0 rfl) ?_
  refine m_get hx hb hts in_Jx4a65c_elementData_915e3_Jx4a65c hown hK hM h rfl 1 (by decide) (by decide +kernel) rfl dJx4a65c_elementData_915e3_1 ?_
  refine lv_iload_n hx hb dJx4a65c_elementData_915e3_4 rfl (lv_at hl 1 rfl) ?_
  refine m_aald (v := .ref a) hx hb hK hM h2 (ix_ok (by omega)) (by rw [nI_clamp (by omega), ha]; rfl) dJx4a65c_elementData_915e3_5 ?_
  exact r_a hx hb hr hlocks dJx4a65c_elementData_915e3_6 (by first | rfl | assumption)
theorem in_Jx4a65c_get_915e3_Jx4a65c : ∀ w ∈ u_ws RJx4a65c TJx4a65c 3, w ∈ wsJx4a65c_get_915e3 := by decide +kernel
set_option maxHeartbeats 4000000 in
set_option maxRecDepth 100000 in
theorem c_get0 (l : Launch) (E : gE) (A : Nat → Prop) (g : Nat → Nat) (M : gM) (tl te cap : Nat) (mc : Int32) (n : Nat) (f : Nat → Option Nat) (h : M tl = some (.inr (0, [.int mc, .ref (g te), .int (nI n)]))) (h2 : M te = some (.inl (E.2.2.2.1, cap, .inr (.inr (.inr (.inr f)))))) (i a : Nat) (hi : i < n) (hn : n ≤ cap) (hc : cap ≤ 15) (ha : f i = some a) : Met l yJx4a65c_get_915e3 wsJx4a65c_get_915e3 ({ frames := 2, cells := 0, slots := 0, locals := 43 } : Room) (Pm E [.ref (g tl), .int (nI i)] (mP E A g M)) (k2_QcV (.ref a)) 0 0 (fun _ => False) := by
  refine m_entry (by decide) rfl (Nat.le_of_ble_eq_true rfl) ?_
  intro p e s m args below meth c hx hb hr hml hts hown hlocks hin hM hK ls hl
  have hl : lv_has ls 2 [(0, .ref (g tl)), (1, .int (nI i))] := hl
  have hown : s.vm.findClass RJx4a65c = some m.cls := hown
  refine lv_iload_n hx hb dJx4a65c_get_915e3_0 rfl (lv_at hl 1 rfl) ?_
  refine lv_aload_n hx hb dJx4a65c_get_915e3_1 rfl (lv_at hl 0 rfl) ?_
  refine m_get hx hb hts in_Jx4a65c_get_915e3_Jx4a65c hown hK hM h rfl 2 (by decide) (by decide +kernel) rfl dJx4a65c_get_915e3_2 ?_
  refine m_cS 2 [.int (nI i), .int (nI n)] [] hx hb hml hown hts hK (c_checkIndex2 l E A g M (nI i) (nI n) (nI_pos (by omega)) (nI_lt hi (by omega))) gJx4a65c_get_915e3_J15_checkIndex_7cf53 rfl rfl rfl (by decide +kernel) rfl ⟨Nat.le_of_ble_eq_true rfl, Nat.le_of_ble_eq_true rfl⟩ trivial hl.1 (Nat.le_of_ble_eq_true rfl) ⟨Nat.le_of_ble_eq_true rfl, Nat.le_of_ble_eq_true rfl⟩ rfl dJx4a65c_get_915e3_5 ?_
  refine lv_pop hx hb dJx4a65c_get_915e3_8 rfl ?_
  refine lv_aload_n hx hb dJx4a65c_get_915e3_9 rfl (lv_at hl 0 rfl) ?_
  refine lv_iload_n hx hb dJx4a65c_get_915e3_10 rfl (lv_at hl 1 rfl) ?_
  refine m_cV 1 [.int (nI i)] [] hx hb hml hown hts hK (c_elementData l E A g M tl te cap mc n f h h2 i a hi hn hc ha) gJx4a65c_get_915e3_Jx4a65c_elementData_915e3 rfl rfl rfl (by decide +kernel) rfl ⟨Nat.le_of_ble_eq_true rfl, Nat.le_of_ble_eq_true rfl⟩ hM h rfl rfl hM hl.1 (Nat.le_of_ble_eq_true rfl) ⟨Nat.le_of_ble_eq_true rfl, Nat.le_of_ble_eq_true rfl⟩ rfl dJx4a65c_get_915e3_11 ?_
  exact r_a hx hb hr hlocks dJx4a65c_get_915e3_14 (by first | rfl | assumption)
set_option maxHeartbeats 4000000 in
set_option maxRecDepth 100000 in
theorem c_bitCount (l : Launch) (E : gE) (A : Nat → Prop) (g : Nat → Nat) (M : gM) (x : Int32) : Met l yJ6_bitCount_0f7a4 wsJ6_bitCount_0f7a4 ({ frames := 0, cells := 0, slots := 0, locals := 0 } : Room) (Pm E [.int x] (fun _ => True)) (k2_QcV (.int (bitC x))) 0 0 (fun _ => False) := by
  refine m_entry (by decide) rfl (Nat.le_of_ble_eq_true rfl) ?_
  intro p e s m args below meth c hx hb hr hml hts hown hlocks hin _ hK ls hl
  have hl : lv_has ls 1 [(0, .int x)] := hl
  have hown : s.vm.findClass RJ6 = some m.cls := hown
  refine lv_iload_n hx hb dJ6_bitCount_0f7a4_0 rfl (lv_at hl 0 rfl) ?_
  refine lv_iload_n hx hb dJ6_bitCount_0f7a4_1 rfl (lv_at hl 0 rfl) ?_
  refine lv_iconst (v := 1) hx hb dJ6_bitCount_0f7a4_2 (by decide) ?_
  refine lv_iushr hx hb dJ6_bitCount_0f7a4_3 rfl ?_
  refine lv_ldcw (v := 1431655765) hx hb hown (hts _ (by decide +kernel)) dJ6_bitCount_0f7a4_4 ?_
  refine lv_iand hx hb dJ6_bitCount_0f7a4_7 ?_
  refine lv_isub hx hb dJ6_bitCount_0f7a4_8 ?_
  refine lv_topi (fun z1 ez1 => ?_)
  refine lv_istore_n (lv' := [(0, .int z1)]) hx hb dJ6_bitCount_0f7a4_9 rfl hl (by decide) rfl (fun ls hl => ?_)
  refine lv_iload_n hx hb dJ6_bitCount_0f7a4_10 rfl (lv_at hl 0 rfl) ?_
  refine lv_ldcw (v := 858993459) hx hb hown (hts _ (by decide +kernel)) dJ6_bitCount_0f7a4_11 ?_
  refine lv_iand hx hb dJ6_bitCount_0f7a4_14 ?_
  refine lv_iload_n hx hb dJ6_bitCount_0f7a4_15 rfl (lv_at hl 0 rfl) ?_
  refine lv_iconst (v := 2) hx hb dJ6_bitCount_0f7a4_16 (by decide) ?_
  refine lv_iushr hx hb dJ6_bitCount_0f7a4_17 rfl ?_
  refine lv_ldcw (v := 858993459) hx hb hown (hts _ (by decide +kernel)) dJ6_bitCount_0f7a4_18 ?_
  refine lv_iand hx hb dJ6_bitCount_0f7a4_21 ?_
  refine lv_iadd hx hb dJ6_bitCount_0f7a4_22 ?_
  refine lv_topi (fun z2 ez2 => ?_)
  refine lv_istore_n (lv' := [(0, .int z2)]) hx hb dJ6_bitCount_0f7a4_23 rfl hl (by decide) rfl (fun ls hl => ?_)
  refine lv_iload_n hx hb dJ6_bitCount_0f7a4_24 rfl (lv_at hl 0 rfl) ?_
  refine lv_iload_n hx hb dJ6_bitCount_0f7a4_25 rfl (lv_at hl 0 rfl) ?_
  refine lv_iconst (v := 4) hx hb dJ6_bitCount_0f7a4_26 (by decide) ?_
  refine lv_iushr hx hb dJ6_bitCount_0f7a4_27 rfl ?_
  refine lv_iadd hx hb dJ6_bitCount_0f7a4_28 ?_
  refine lv_ldcw (v := 252645135) hx hb hown (hts _ (by decide +kernel)) dJ6_bitCount_0f7a4_29 ?_
  refine lv_iand hx hb dJ6_bitCount_0f7a4_32 ?_
  refine lv_topi (fun z3 ez3 => ?_)
  refine lv_istore_n (lv' := [(0, .int z3)]) hx hb dJ6_bitCount_0f7a4_33 rfl hl (by decide) rfl (fun ls hl => ?_)
  refine lv_iload_n hx hb dJ6_bitCount_0f7a4_34 rfl (lv_at hl 0 rfl) ?_
  refine lv_iload_n hx hb dJ6_bitCount_0f7a4_35 rfl (lv_at hl 0 rfl) ?_
  refine lv_bipush (v := 8) hx hb dJ6_bitCount_0f7a4_36 (by decide) ?_
  refine lv_iushr hx hb dJ6_bitCount_0f7a4_38 rfl ?_
  refine lv_iadd hx hb dJ6_bitCount_0f7a4_39 ?_
  refine lv_topi (fun z4 ez4 => ?_)
  refine lv_istore_n (lv' := [(0, .int z4)]) hx hb dJ6_bitCount_0f7a4_40 rfl hl (by decide) rfl (fun ls hl => ?_)
  refine lv_iload_n hx hb dJ6_bitCount_0f7a4_41 rfl (lv_at hl 0 rfl) ?_
  refine lv_iload_n hx hb dJ6_bitCount_0f7a4_42 rfl (lv_at hl 0 rfl) ?_
  refine lv_bipush (v := 16) hx hb dJ6_bitCount_0f7a4_43 (by decide) ?_
  refine lv_iushr hx hb dJ6_bitCount_0f7a4_45 rfl ?_
  refine lv_iadd hx hb dJ6_bitCount_0f7a4_46 ?_
  refine lv_topi (fun z5 ez5 => ?_)
  refine lv_istore_n (lv' := [(0, .int z5)]) hx hb dJ6_bitCount_0f7a4_47 rfl hl (by decide) rfl (fun ls hl => ?_)
  refine lv_iload_n hx hb dJ6_bitCount_0f7a4_48 rfl (lv_at hl 0 rfl) ?_
  refine lv_bipush (v := 63) hx hb dJ6_bitCount_0f7a4_49 (by decide) ?_
  refine lv_iand hx hb dJ6_bitCount_0f7a4_51 ?_
  exact r_i hx hb hr hlocks dJ6_bitCount_0f7a4_52 (by rw [ez5, ez4, ez3, ez2, ez1]; rfl)
set_option maxHeartbeats 4000000 in
set_option maxRecDepth 100000 in
theorem c_ntz (l : Launch) (E : gE) (A : Nat → Prop) (g : Nat → Nat) (M : gM) (x : Int32) : Met l yJ6_numberOfTrailingZeros_0f7a4 wsJ6_numberOfTrailingZeros_0f7a4 ({ frames := 0, cells := 0, slots := 0, locals := 0 } : Room) (Pm E [.int x] (fun _ => True)) (k2_QcV (.int (ntz x))) 0 0 (fun _ => False) := by
  refine m_entry (by decide) rfl (Nat.le_of_ble_eq_true rfl) ?_
  intro p e s m args below meth c hx hb hr hml hts hown hlocks hin _ hK ls hl
  have hl : lv_has ls 2 [(0, .int x)] := hl
  have hown : s.vm.findClass RJ6 = some m.cls := hown
  refine lv_iload_n hx hb dJ6_numberOfTrailingZeros_0f7a4_0 rfl (lv_at hl 0 rfl) ?_
  refine lv_iconst (v := (-1)) hx hb dJ6_numberOfTrailingZeros_0f7a4_1 (by decide) ?_
  refine lv_ixor hx hb dJ6_numberOfTrailingZeros_0f7a4_2 ?_
  refine lv_iload_n hx hb dJ6_numberOfTrailingZeros_0f7a4_3 rfl (lv_at hl 0 rfl) ?_
  refine lv_iconst (v := 1) hx hb dJ6_numberOfTrailingZeros_0f7a4_4 (by decide) ?_
  refine lv_isub hx hb dJ6_numberOfTrailingZeros_0f7a4_5 ?_
  refine lv_iand hx hb dJ6_numberOfTrailingZeros_0f7a4_6 ?_
  refine lv_topi (fun z0 ez0 => ?_)
  refine lv_istore_n (lv' := [(0, .int z0)]) hx hb dJ6_numberOfTrailingZeros_0f7a4_7 rfl hl (by decide) rfl (fun ls hl => ?_)
  refine lv_iload_n hx hb dJ6_numberOfTrailingZeros_0f7a4_8 rfl (lv_at hl 0 rfl) ?_
  refine lv_if_gt (tgt := 17) hx hb dJ6_numberOfTrailingZeros_0f7a4_9 (by decide) (fun c9 => ?_) (fun c9 => ?_)
  · refine lv_iconst (v := 1) hx hb dJ6_numberOfTrailingZeros_0f7a4_17 (by decide) ?_
    refine lv_istore_n (lv' := [(1, .int 1), (0, .int z0)]) hx hb dJ6_numberOfTrailingZeros_0f7a4_18 rfl hl (by decide) rfl (fun ls hl => ?_)
    refine lv_iload_n hx hb dJ6_numberOfTrailingZeros_0f7a4_19 rfl (lv_at hl 1 rfl) ?_
    refine lv_ldcw (v := 65536) hx hb hown (hts _ (by decide +kernel)) dJ6_numberOfTrailingZeros_0f7a4_20 ?_
    refine lv_icmp_le (tgt := 34) hx hb dJ6_numberOfTrailingZeros_0f7a4_23 (by decide) (fun c23 => ?_) (fun c23 => ?_)
    · refine lv_iload_n hx hb dJ6_numberOfTrailingZeros_0f7a4_34 rfl (lv_at hl 1 rfl) ?_
      refine lv_sipush (v := 256) hx hb dJ6_numberOfTrailingZeros_0f7a4_35 (by decide) ?_
      refine lv_icmp_le (tgt := 49) hx hb dJ6_numberOfTrailingZeros_0f7a4_38 (by decide) (fun c38 => ?_) (fun c38 => ?_)
      · refine lv_iload_n hx hb dJ6_numberOfTrailingZeros_0f7a4_49 rfl (lv_at hl 1 rfl) ?_
        refine lv_bipush (v := 16) hx hb dJ6_numberOfTrailingZeros_0f7a4_50 (by decide) ?_
        refine lv_icmp_le (tgt := 62) hx hb dJ6_numberOfTrailingZeros_0f7a4_52 (by decide) (fun c52 => ?_) (fun c52 => ?_)
        · refine lv_iload_n hx hb dJ6_numberOfTrailingZeros_0f7a4_62 rfl (lv_at hl 1 rfl) ?_
          refine lv_iconst (v := 4) hx hb dJ6_numberOfTrailingZeros_0f7a4_63 (by decide) ?_
          refine lv_icmp_le (tgt := 74) hx hb dJ6_numberOfTrailingZeros_0f7a4_64 (by decide) (fun c64 => ?_) (fun c64 => ?_)
          · refine lv_iload_n hx hb dJ6_numberOfTrailingZeros_0f7a4_74 rfl (lv_at hl 0 rfl) ?_
            refine lv_iload_n hx hb dJ6_numberOfTrailingZeros_0f7a4_75 rfl (lv_at hl 1 rfl) ?_
            refine lv_iconst (v := 1) hx hb dJ6_numberOfTrailingZeros_0f7a4_76 (by decide) ?_
            refine lv_iushr hx hb dJ6_numberOfTrailingZeros_0f7a4_77 rfl ?_
            refine lv_iadd hx hb dJ6_numberOfTrailingZeros_0f7a4_78 ?_
            exact r_i hx hb hr hlocks dJ6_numberOfTrailingZeros_0f7a4_79 (by simp only [ntz, ntz1, ntz2, ntz3, ntz4, ntz5, ← ez0, c9, c23, c38, c52, c64, if_true, if_false])
          · refine lv_iinc (v := 1 + 2) (lv' := [(1, .int (1 + 2)), (0, .int z0)]) hx hb dJ6_numberOfTrailingZeros_0f7a4_67 hl (k := 0) rfl (by first | rfl | decide) (by decide) rfl (fun ls hl => ?_)
            refine lv_iload_n hx hb dJ6_numberOfTrailingZeros_0f7a4_70 rfl (lv_at hl 1 rfl) ?_
            refine lv_iconst (v := 2) hx hb dJ6_numberOfTrailingZeros_0f7a4_71 (by decide) ?_
            refine lv_iushr hx hb dJ6_numberOfTrailingZeros_0f7a4_72 rfl ?_
            refine lv_topi (fun z4 ez4 => ?_)
            refine lv_istore_n (lv' := [(0, .int z4), (1, .int (1 + 2))]) hx hb dJ6_numberOfTrailingZeros_0f7a4_73 rfl hl (by decide) rfl (fun ls hl => ?_)
            refine lv_iload_n hx hb dJ6_numberOfTrailingZeros_0f7a4_74 rfl (lv_at hl 1 rfl) ?_
            refine lv_iload_n hx hb dJ6_numberOfTrailingZeros_0f7a4_75 rfl (lv_at hl 0 rfl) ?_
            refine lv_iconst (v := 1) hx hb dJ6_numberOfTrailingZeros_0f7a4_76 (by decide) ?_
            refine lv_iushr hx hb dJ6_numberOfTrailingZeros_0f7a4_77 rfl ?_
            refine lv_iadd hx hb dJ6_numberOfTrailingZeros_0f7a4_78 ?_
            exact r_i hx hb hr hlocks dJ6_numberOfTrailingZeros_0f7a4_79 (by simp only [ntz, ntz1, ntz2, ntz3, ntz4, ntz5, ← ez0, ← ez4, c9, c23, c38, c52, c64, if_true, if_false])
        · refine lv_iinc (v := 1 + 4) (lv' := [(1, .int (1 + 4)), (0, .int z0)]) hx hb dJ6_numberOfTrailingZeros_0f7a4_55 hl (k := 0) rfl (by first | rfl | decide) (by decide) rfl (fun ls hl => ?_)
          refine lv_iload_n hx hb dJ6_numberOfTrailingZeros_0f7a4_58 rfl (lv_at hl 1 rfl) ?_
          refine lv_iconst (v := 4) hx hb dJ6_numberOfTrailingZeros_0f7a4_59 (by decide) ?_
          refine lv_iushr hx hb dJ6_numberOfTrailingZeros_0f7a4_60 rfl ?_
          refine lv_topi (fun z3 ez3 => ?_)
          refine lv_istore_n (lv' := [(0, .int z3), (1, .int (1 + 4))]) hx hb dJ6_numberOfTrailingZeros_0f7a4_61 rfl hl (by decide) rfl (fun ls hl => ?_)
          refine lv_iload_n hx hb dJ6_numberOfTrailingZeros_0f7a4_62 rfl (lv_at hl 0 rfl) ?_
          refine lv_iconst (v := 4) hx hb dJ6_numberOfTrailingZeros_0f7a4_63 (by decide) ?_
          refine lv_icmp_le (tgt := 74) hx hb dJ6_numberOfTrailingZeros_0f7a4_64 (by decide) (fun c64 => ?_) (fun c64 => ?_)
          · refine lv_iload_n hx hb dJ6_numberOfTrailingZeros_0f7a4_74 rfl (lv_at hl 1 rfl) ?_
            refine lv_iload_n hx hb dJ6_numberOfTrailingZeros_0f7a4_75 rfl (lv_at hl 0 rfl) ?_
            refine lv_iconst (v := 1) hx hb dJ6_numberOfTrailingZeros_0f7a4_76 (by decide) ?_
            refine lv_iushr hx hb dJ6_numberOfTrailingZeros_0f7a4_77 rfl ?_
            refine lv_iadd hx hb dJ6_numberOfTrailingZeros_0f7a4_78 ?_
            exact r_i hx hb hr hlocks dJ6_numberOfTrailingZeros_0f7a4_79 (by simp only [ntz, ntz1, ntz2, ntz3, ntz4, ntz5, ← ez0, ← ez3, c9, c23, c38, c52, c64, if_true, if_false])
          · refine lv_iinc (v := (1 + 4) + 2) (lv' := [(1, .int ((1 + 4) + 2)), (0, .int z3)]) hx hb dJ6_numberOfTrailingZeros_0f7a4_67 hl (k := 1) rfl (by first | rfl | decide) (by decide) rfl (fun ls hl => ?_)
            refine lv_iload_n hx hb dJ6_numberOfTrailingZeros_0f7a4_70 rfl (lv_at hl 1 rfl) ?_
            refine lv_iconst (v := 2) hx hb dJ6_numberOfTrailingZeros_0f7a4_71 (by decide) ?_
            refine lv_iushr hx hb dJ6_numberOfTrailingZeros_0f7a4_72 rfl ?_
            refine lv_topi (fun z4 ez4 => ?_)
            refine lv_istore_n (lv' := [(0, .int z4), (1, .int ((1 + 4) + 2))]) hx hb dJ6_numberOfTrailingZeros_0f7a4_73 rfl hl (by decide) rfl (fun ls hl => ?_)
            refine lv_iload_n hx hb dJ6_numberOfTrailingZeros_0f7a4_74 rfl (lv_at hl 1 rfl) ?_
            refine lv_iload_n hx hb dJ6_numberOfTrailingZeros_0f7a4_75 rfl (lv_at hl 0 rfl) ?_
            refine lv_iconst (v := 1) hx hb dJ6_numberOfTrailingZeros_0f7a4_76 (by decide) ?_
            refine lv_iushr hx hb dJ6_numberOfTrailingZeros_0f7a4_77 rfl ?_
            refine lv_iadd hx hb dJ6_numberOfTrailingZeros_0f7a4_78 ?_
            exact r_i hx hb hr hlocks dJ6_numberOfTrailingZeros_0f7a4_79 (by simp only [ntz, ntz1, ntz2, ntz3, ntz4, ntz5, ← ez0, ← ez3, ← ez4, c9, c23, c38, c52, c64, if_true, if_false])
      · refine lv_iinc (v := 1 + 8) (lv' := [(1, .int (1 + 8)), (0, .int z0)]) hx hb dJ6_numberOfTrailingZeros_0f7a4_41 hl (k := 0) rfl (by first | rfl | decide) (by decide) rfl (fun ls hl => ?_)
        refine lv_iload_n hx hb dJ6_numberOfTrailingZeros_0f7a4_44 rfl (lv_at hl 1 rfl) ?_
        refine lv_bipush (v := 8) hx hb dJ6_numberOfTrailingZeros_0f7a4_45 (by decide) ?_
        refine lv_iushr hx hb dJ6_numberOfTrailingZeros_0f7a4_47 rfl ?_
        refine lv_topi (fun z2 ez2 => ?_)
        refine lv_istore_n (lv' := [(0, .int z2), (1, .int (1 + 8))]) hx hb dJ6_numberOfTrailingZeros_0f7a4_48 rfl hl (by decide) rfl (fun ls hl => ?_)
        refine lv_iload_n hx hb dJ6_numberOfTrailingZeros_0f7a4_49 rfl (lv_at hl 0 rfl) ?_
        refine lv_bipush (v := 16) hx hb dJ6_numberOfTrailingZeros_0f7a4_50 (by decide) ?_
        refine lv_icmp_le (tgt := 62) hx hb dJ6_numberOfTrailingZeros_0f7a4_52 (by decide) (fun c52 => ?_) (fun c52 => ?_)
        · refine lv_iload_n hx hb dJ6_numberOfTrailingZeros_0f7a4_62 rfl (lv_at hl 0 rfl) ?_
          refine lv_iconst (v := 4) hx hb dJ6_numberOfTrailingZeros_0f7a4_63 (by decide) ?_
          refine lv_icmp_le (tgt := 74) hx hb dJ6_numberOfTrailingZeros_0f7a4_64 (by decide) (fun c64 => ?_) (fun c64 => ?_)
          · refine lv_iload_n hx hb dJ6_numberOfTrailingZeros_0f7a4_74 rfl (lv_at hl 1 rfl) ?_
            refine lv_iload_n hx hb dJ6_numberOfTrailingZeros_0f7a4_75 rfl (lv_at hl 0 rfl) ?_
            refine lv_iconst (v := 1) hx hb dJ6_numberOfTrailingZeros_0f7a4_76 (by decide) ?_
            refine lv_iushr hx hb dJ6_numberOfTrailingZeros_0f7a4_77 rfl ?_
            refine lv_iadd hx hb dJ6_numberOfTrailingZeros_0f7a4_78 ?_
            exact r_i hx hb hr hlocks dJ6_numberOfTrailingZeros_0f7a4_79 (by simp only [ntz, ntz1, ntz2, ntz3, ntz4, ntz5, ← ez0, ← ez2, c9, c23, c38, c52, c64, if_true, if_false])
          · refine lv_iinc (v := (1 + 8) + 2) (lv' := [(1, .int ((1 + 8) + 2)), (0, .int z2)]) hx hb dJ6_numberOfTrailingZeros_0f7a4_67 hl (k := 1) rfl (by first | rfl | decide) (by decide) rfl (fun ls hl => ?_)
            refine lv_iload_n hx hb dJ6_numberOfTrailingZeros_0f7a4_70 rfl (lv_at hl 1 rfl) ?_
            refine lv_iconst (v := 2) hx hb dJ6_numberOfTrailingZeros_0f7a4_71 (by decide) ?_
            refine lv_iushr hx hb dJ6_numberOfTrailingZeros_0f7a4_72 rfl ?_
            refine lv_topi (fun z4 ez4 => ?_)
            refine lv_istore_n (lv' := [(0, .int z4), (1, .int ((1 + 8) + 2))]) hx hb dJ6_numberOfTrailingZeros_0f7a4_73 rfl hl (by decide) rfl (fun ls hl => ?_)
            refine lv_iload_n hx hb dJ6_numberOfTrailingZeros_0f7a4_74 rfl (lv_at hl 1 rfl) ?_
            refine lv_iload_n hx hb dJ6_numberOfTrailingZeros_0f7a4_75 rfl (lv_at hl 0 rfl) ?_
            refine lv_iconst (v := 1) hx hb dJ6_numberOfTrailingZeros_0f7a4_76 (by decide) ?_
            refine lv_iushr hx hb dJ6_numberOfTrailingZeros_0f7a4_77 rfl ?_
            refine lv_iadd hx hb dJ6_numberOfTrailingZeros_0f7a4_78 ?_
            exact r_i hx hb hr hlocks dJ6_numberOfTrailingZeros_0f7a4_79 (by simp only [ntz, ntz1, ntz2, ntz3, ntz4, ntz5, ← ez0, ← ez2, ← ez4, c9, c23, c38, c52, c64, if_true, if_false])
        · refine lv_iinc (v := (1 + 8) + 4) (lv' := [(1, .int ((1 + 8) + 4)), (0, .int z2)]) hx hb dJ6_numberOfTrailingZeros_0f7a4_55 hl (k := 1) rfl (by first | rfl | decide) (by decide) rfl (fun ls hl => ?_)
          refine lv_iload_n hx hb dJ6_numberOfTrailingZeros_0f7a4_58 rfl (lv_at hl 1 rfl) ?_
          refine lv_iconst (v := 4) hx hb dJ6_numberOfTrailingZeros_0f7a4_59 (by decide) ?_
          refine lv_iushr hx hb dJ6_numberOfTrailingZeros_0f7a4_60 rfl ?_
          refine lv_topi (fun z3 ez3 => ?_)
          refine lv_istore_n (lv' := [(0, .int z3), (1, .int ((1 + 8) + 4))]) hx hb dJ6_numberOfTrailingZeros_0f7a4_61 rfl hl (by decide) rfl (fun ls hl => ?_)
          refine lv_iload_n hx hb dJ6_numberOfTrailingZeros_0f7a4_62 rfl (lv_at hl 0 rfl) ?_
          refine lv_iconst (v := 4) hx hb dJ6_numberOfTrailingZeros_0f7a4_63 (by decide) ?_
          refine lv_icmp_le (tgt := 74) hx hb dJ6_numberOfTrailingZeros_0f7a4_64 (by decide) (fun c64 => ?_) (fun c64 => ?_)
          · refine lv_iload_n hx hb dJ6_numberOfTrailingZeros_0f7a4_74 rfl (lv_at hl 1 rfl) ?_
            refine lv_iload_n hx hb dJ6_numberOfTrailingZeros_0f7a4_75 rfl (lv_at hl 0 rfl) ?_
            refine lv_iconst (v := 1) hx hb dJ6_numberOfTrailingZeros_0f7a4_76 (by decide) ?_
            refine lv_iushr hx hb dJ6_numberOfTrailingZeros_0f7a4_77 rfl ?_
            refine lv_iadd hx hb dJ6_numberOfTrailingZeros_0f7a4_78 ?_
            exact r_i hx hb hr hlocks dJ6_numberOfTrailingZeros_0f7a4_79 (by simp only [ntz, ntz1, ntz2, ntz3, ntz4, ntz5, ← ez0, ← ez2, ← ez3, c9, c23, c38, c52, c64, if_true, if_false])
          · refine lv_iinc (v := ((1 + 8) + 4) + 2) (lv' := [(1, .int (((1 + 8) + 4) + 2)), (0, .int z3)]) hx hb dJ6_numberOfTrailingZeros_0f7a4_67 hl (k := 1) rfl (by first | rfl | decide) (by decide) rfl (fun ls hl => ?_)
            refine lv_iload_n hx hb dJ6_numberOfTrailingZeros_0f7a4_70 rfl (lv_at hl 1 rfl) ?_
            refine lv_iconst (v := 2) hx hb dJ6_numberOfTrailingZeros_0f7a4_71 (by decide) ?_
            refine lv_iushr hx hb dJ6_numberOfTrailingZeros_0f7a4_72 rfl ?_
            refine lv_topi (fun z4 ez4 => ?_)
            refine lv_istore_n (lv' := [(0, .int z4), (1, .int (((1 + 8) + 4) + 2))]) hx hb dJ6_numberOfTrailingZeros_0f7a4_73 rfl hl (by decide) rfl (fun ls hl => ?_)
            refine lv_iload_n hx hb dJ6_numberOfTrailingZeros_0f7a4_74 rfl (lv_at hl 1 rfl) ?_
            refine lv_iload_n hx hb dJ6_numberOfTrailingZeros_0f7a4_75 rfl (lv_at hl 0 rfl) ?_
            refine lv_iconst (v := 1) hx hb dJ6_numberOfTrailingZeros_0f7a4_76 (by decide) ?_
            refine lv_iushr hx hb dJ6_numberOfTrailingZeros_0f7a4_77 rfl ?_
            refine lv_iadd hx hb dJ6_numberOfTrailingZeros_0f7a4_78 ?_
            exact r_i hx hb hr hlocks dJ6_numberOfTrailingZeros_0f7a4_79 (by simp only [ntz, ntz1, ntz2, ntz3, ntz4, ntz5, ← ez0, ← ez2, ← ez3, ← ez4, c9, c23, c38, c52, c64, if_true, if_false])
    · refine lv_iinc (v := 1 + 16) (lv' := [(1, .int (1 + 16)), (0, .int z0)]) hx hb dJ6_numberOfTrailingZeros_0f7a4_26 hl (k := 0) rfl (by first | rfl | decide) (by decide) rfl (fun ls hl => ?_)
      refine lv_iload_n hx hb dJ6_numberOfTrailingZeros_0f7a4_29 rfl (lv_at hl 1 rfl) ?_
      refine lv_bipush (v := 16) hx hb dJ6_numberOfTrailingZeros_0f7a4_30 (by decide) ?_
      refine lv_iushr hx hb dJ6_numberOfTrailingZeros_0f7a4_32 rfl ?_
      refine lv_topi (fun z1 ez1 => ?_)
      refine lv_istore_n (lv' := [(0, .int z1), (1, .int (1 + 16))]) hx hb dJ6_numberOfTrailingZeros_0f7a4_33 rfl hl (by decide) rfl (fun ls hl => ?_)
      refine lv_iload_n hx hb dJ6_numberOfTrailingZeros_0f7a4_34 rfl (lv_at hl 0 rfl) ?_
      refine lv_sipush (v := 256) hx hb dJ6_numberOfTrailingZeros_0f7a4_35 (by decide) ?_
      refine lv_icmp_le (tgt := 49) hx hb dJ6_numberOfTrailingZeros_0f7a4_38 (by decide) (fun c38 => ?_) (fun c38 => ?_)
      · refine lv_iload_n hx hb dJ6_numberOfTrailingZeros_0f7a4_49 rfl (lv_at hl 0 rfl) ?_
        refine lv_bipush (v := 16) hx hb dJ6_numberOfTrailingZeros_0f7a4_50 (by decide) ?_
        refine lv_icmp_le (tgt := 62) hx hb dJ6_numberOfTrailingZeros_0f7a4_52 (by decide) (fun c52 => ?_) (fun c52 => ?_)
        · refine lv_iload_n hx hb dJ6_numberOfTrailingZeros_0f7a4_62 rfl (lv_at hl 0 rfl) ?_
          refine lv_iconst (v := 4) hx hb dJ6_numberOfTrailingZeros_0f7a4_63 (by decide) ?_
          refine lv_icmp_le (tgt := 74) hx hb dJ6_numberOfTrailingZeros_0f7a4_64 (by decide) (fun c64 => ?_) (fun c64 => ?_)
          · refine lv_iload_n hx hb dJ6_numberOfTrailingZeros_0f7a4_74 rfl (lv_at hl 1 rfl) ?_
            refine lv_iload_n hx hb dJ6_numberOfTrailingZeros_0f7a4_75 rfl (lv_at hl 0 rfl) ?_
            refine lv_iconst (v := 1) hx hb dJ6_numberOfTrailingZeros_0f7a4_76 (by decide) ?_
            refine lv_iushr hx hb dJ6_numberOfTrailingZeros_0f7a4_77 rfl ?_
            refine lv_iadd hx hb dJ6_numberOfTrailingZeros_0f7a4_78 ?_
            exact r_i hx hb hr hlocks dJ6_numberOfTrailingZeros_0f7a4_79 (by simp only [ntz, ntz1, ntz2, ntz3, ntz4, ntz5, ← ez0, ← ez1, c9, c23, c38, c52, c64, if_true, if_false])
          · refine lv_iinc (v := (1 + 16) + 2) (lv' := [(1, .int ((1 + 16) + 2)), (0, .int z1)]) hx hb dJ6_numberOfTrailingZeros_0f7a4_67 hl (k := 1) rfl (by first | rfl | decide) (by decide) rfl (fun ls hl => ?_)
            refine lv_iload_n hx hb dJ6_numberOfTrailingZeros_0f7a4_70 rfl (lv_at hl 1 rfl) ?_
            refine lv_iconst (v := 2) hx hb dJ6_numberOfTrailingZeros_0f7a4_71 (by decide) ?_
            refine lv_iushr hx hb dJ6_numberOfTrailingZeros_0f7a4_72 rfl ?_
            refine lv_topi (fun z4 ez4 => ?_)
            refine lv_istore_n (lv' := [(0, .int z4), (1, .int ((1 + 16) + 2))]) hx hb dJ6_numberOfTrailingZeros_0f7a4_73 rfl hl (by decide) rfl (fun ls hl => ?_)
            refine lv_iload_n hx hb dJ6_numberOfTrailingZeros_0f7a4_74 rfl (lv_at hl 1 rfl) ?_
            refine lv_iload_n hx hb dJ6_numberOfTrailingZeros_0f7a4_75 rfl (lv_at hl 0 rfl) ?_
            refine lv_iconst (v := 1) hx hb dJ6_numberOfTrailingZeros_0f7a4_76 (by decide) ?_
            refine lv_iushr hx hb dJ6_numberOfTrailingZeros_0f7a4_77 rfl ?_
            refine lv_iadd hx hb dJ6_numberOfTrailingZeros_0f7a4_78 ?_
            exact r_i hx hb hr hlocks dJ6_numberOfTrailingZeros_0f7a4_79 (by simp only [ntz, ntz1, ntz2, ntz3, ntz4, ntz5, ← ez0, ← ez1, ← ez4, c9, c23, c38, c52, c64, if_true, if_false])
        · refine lv_iinc (v := (1 + 16) + 4) (lv' := [(1, .int ((1 + 16) + 4)), (0, .int z1)]) hx hb dJ6_numberOfTrailingZeros_0f7a4_55 hl (k := 1) rfl (by first | rfl | decide) (by decide) rfl (fun ls hl => ?_)
          refine lv_iload_n hx hb dJ6_numberOfTrailingZeros_0f7a4_58 rfl (lv_at hl 1 rfl) ?_
          refine lv_iconst (v := 4) hx hb dJ6_numberOfTrailingZeros_0f7a4_59 (by decide) ?_
          refine lv_iushr hx hb dJ6_numberOfTrailingZeros_0f7a4_60 rfl ?_
          refine lv_topi (fun z3 ez3 => ?_)
          refine lv_istore_n (lv' := [(0, .int z3), (1, .int ((1 + 16) + 4))]) hx hb dJ6_numberOfTrailingZeros_0f7a4_61 rfl hl (by decide) rfl (fun ls hl => ?_)
          refine lv_iload_n hx hb dJ6_numberOfTrailingZeros_0f7a4_62 rfl (lv_at hl 0 rfl) ?_
          refine lv_iconst (v := 4) hx hb dJ6_numberOfTrailingZeros_0f7a4_63 (by decide) ?_
          refine lv_icmp_le (tgt := 74) hx hb dJ6_numberOfTrailingZeros_0f7a4_64 (by decide) (fun c64 => ?_) (fun c64 => ?_)
          · refine lv_iload_n hx hb dJ6_numberOfTrailingZeros_0f7a4_74 rfl (lv_at hl 1 rfl) ?_
            refine lv_iload_n hx hb dJ6_numberOfTrailingZeros_0f7a4_75 rfl (lv_at hl 0 rfl) ?_
            refine lv_iconst (v := 1) hx hb dJ6_numberOfTrailingZeros_0f7a4_76 (by decide) ?_
            refine lv_iushr hx hb dJ6_numberOfTrailingZeros_0f7a4_77 rfl ?_
            refine lv_iadd hx hb dJ6_numberOfTrailingZeros_0f7a4_78 ?_
            exact r_i hx hb hr hlocks dJ6_numberOfTrailingZeros_0f7a4_79 (by simp only [ntz, ntz1, ntz2, ntz3, ntz4, ntz5, ← ez0, ← ez1, ← ez3, c9, c23, c38, c52, c64, if_true, if_false])
          · refine lv_iinc (v := ((1 + 16) + 4) + 2) (lv' := [(1, .int (((1 + 16) + 4) + 2)), (0, .int z3)]) hx hb dJ6_numberOfTrailingZeros_0f7a4_67 hl (k := 1) rfl (by first | rfl | decide) (by decide) rfl (fun ls hl => ?_)
            refine lv_iload_n hx hb dJ6_numberOfTrailingZeros_0f7a4_70 rfl (lv_at hl 1 rfl) ?_
            refine lv_iconst (v := 2) hx hb dJ6_numberOfTrailingZeros_0f7a4_71 (by decide) ?_
            refine lv_iushr hx hb dJ6_numberOfTrailingZeros_0f7a4_72 rfl ?_
            refine lv_topi (fun z4 ez4 => ?_)
            refine lv_istore_n (lv' := [(0, .int z4), (1, .int (((1 + 16) + 4) + 2))]) hx hb dJ6_numberOfTrailingZeros_0f7a4_73 rfl hl (by decide) rfl (fun ls hl => ?_)
            refine lv_iload_n hx hb dJ6_numberOfTrailingZeros_0f7a4_74 rfl (lv_at hl 1 rfl) ?_
            refine lv_iload_n hx hb dJ6_numberOfTrailingZeros_0f7a4_75 rfl (lv_at hl 0 rfl) ?_
            refine lv_iconst (v := 1) hx hb dJ6_numberOfTrailingZeros_0f7a4_76 (by decide) ?_
            refine lv_iushr hx hb dJ6_numberOfTrailingZeros_0f7a4_77 rfl ?_
            refine lv_iadd hx hb dJ6_numberOfTrailingZeros_0f7a4_78 ?_
            exact r_i hx hb hr hlocks dJ6_numberOfTrailingZeros_0f7a4_79 (by simp only [ntz, ntz1, ntz2, ntz3, ntz4, ntz5, ← ez0, ← ez1, ← ez3, ← ez4, c9, c23, c38, c52, c64, if_true, if_false])
      · refine lv_iinc (v := (1 + 16) + 8) (lv' := [(1, .int ((1 + 16) + 8)), (0, .int z1)]) hx hb dJ6_numberOfTrailingZeros_0f7a4_41 hl (k := 1) rfl (by first | rfl | decide) (by decide) rfl (fun ls hl => ?_)
        refine lv_iload_n hx hb dJ6_numberOfTrailingZeros_0f7a4_44 rfl (lv_at hl 1 rfl) ?_
        refine lv_bipush (v := 8) hx hb dJ6_numberOfTrailingZeros_0f7a4_45 (by decide) ?_
        refine lv_iushr hx hb dJ6_numberOfTrailingZeros_0f7a4_47 rfl ?_
        refine lv_topi (fun z2 ez2 => ?_)
        refine lv_istore_n (lv' := [(0, .int z2), (1, .int ((1 + 16) + 8))]) hx hb dJ6_numberOfTrailingZeros_0f7a4_48 rfl hl (by decide) rfl (fun ls hl => ?_)
        refine lv_iload_n hx hb dJ6_numberOfTrailingZeros_0f7a4_49 rfl (lv_at hl 0 rfl) ?_
        refine lv_bipush (v := 16) hx hb dJ6_numberOfTrailingZeros_0f7a4_50 (by decide) ?_
        refine lv_icmp_le (tgt := 62) hx hb dJ6_numberOfTrailingZeros_0f7a4_52 (by decide) (fun c52 => ?_) (fun c52 => ?_)
        · refine lv_iload_n hx hb dJ6_numberOfTrailingZeros_0f7a4_62 rfl (lv_at hl 0 rfl) ?_
          refine lv_iconst (v := 4) hx hb dJ6_numberOfTrailingZeros_0f7a4_63 (by decide) ?_
          refine lv_icmp_le (tgt := 74) hx hb dJ6_numberOfTrailingZeros_0f7a4_64 (by decide) (fun c64 => ?_) (fun c64 => ?_)
          · refine lv_iload_n hx hb dJ6_numberOfTrailingZeros_0f7a4_74 rfl (lv_at hl 1 rfl) ?_
            refine lv_iload_n hx hb dJ6_numberOfTrailingZeros_0f7a4_75 rfl (lv_at hl 0 rfl) ?_
            refine lv_iconst (v := 1) hx hb dJ6_numberOfTrailingZeros_0f7a4_76 (by decide) ?_
            refine lv_iushr hx hb dJ6_numberOfTrailingZeros_0f7a4_77 rfl ?_
            refine lv_iadd hx hb dJ6_numberOfTrailingZeros_0f7a4_78 ?_
            exact r_i hx hb hr hlocks dJ6_numberOfTrailingZeros_0f7a4_79 (by simp only [ntz, ntz1, ntz2, ntz3, ntz4, ntz5, ← ez0, ← ez1, ← ez2, c9, c23, c38, c52, c64, if_true, if_false])
          · refine lv_iinc (v := ((1 + 16) + 8) + 2) (lv' := [(1, .int (((1 + 16) + 8) + 2)), (0, .int z2)]) hx hb dJ6_numberOfTrailingZeros_0f7a4_67 hl (k := 1) rfl (by first | rfl | decide) (by decide) rfl (fun ls hl => ?_)
            refine lv_iload_n hx hb dJ6_numberOfTrailingZeros_0f7a4_70 rfl (lv_at hl 1 rfl) ?_
            refine lv_iconst (v := 2) hx hb dJ6_numberOfTrailingZeros_0f7a4_71 (by decide) ?_
            refine lv_iushr hx hb dJ6_numberOfTrailingZeros_0f7a4_72 rfl ?_
            refine lv_topi (fun z4 ez4 => ?_)
            refine lv_istore_n (lv' := [(0, .int z4), (1, .int (((1 + 16) + 8) + 2))]) hx hb dJ6_numberOfTrailingZeros_0f7a4_73 rfl hl (by decide) rfl (fun ls hl => ?_)
            refine lv_iload_n hx hb dJ6_numberOfTrailingZeros_0f7a4_74 rfl (lv_at hl 1 rfl) ?_
            refine lv_iload_n hx hb dJ6_numberOfTrailingZeros_0f7a4_75 rfl (lv_at hl 0 rfl) ?_
            refine lv_iconst (v := 1) hx hb dJ6_numberOfTrailingZeros_0f7a4_76 (by decide) ?_
            refine lv_iushr hx hb dJ6_numberOfTrailingZeros_0f7a4_77 rfl ?_
            refine lv_iadd hx hb dJ6_numberOfTrailingZeros_0f7a4_78 ?_
            exact r_i hx hb hr hlocks dJ6_numberOfTrailingZeros_0f7a4_79 (by simp only [ntz, ntz1, ntz2, ntz3, ntz4, ntz5, ← ez0, ← ez1, ← ez2, ← ez4, c9, c23, c38, c52, c64, if_true, if_false])
        · refine lv_iinc (v := ((1 + 16) + 8) + 4) (lv' := [(1, .int (((1 + 16) + 8) + 4)), (0, .int z2)]) hx hb dJ6_numberOfTrailingZeros_0f7a4_55 hl (k := 1) rfl (by first | rfl | decide) (by decide) rfl (fun ls hl => ?_)
          refine lv_iload_n hx hb dJ6_numberOfTrailingZeros_0f7a4_58 rfl (lv_at hl 1 rfl) ?_
          refine lv_iconst (v := 4) hx hb dJ6_numberOfTrailingZeros_0f7a4_59 (by decide) ?_
          refine lv_iushr hx hb dJ6_numberOfTrailingZeros_0f7a4_60 rfl ?_
          refine lv_topi (fun z3 ez3 => ?_)
          refine lv_istore_n (lv' := [(0, .int z3), (1, .int (((1 + 16) + 8) + 4))]) hx hb dJ6_numberOfTrailingZeros_0f7a4_61 rfl hl (by decide) rfl (fun ls hl => ?_)
          refine lv_iload_n hx hb dJ6_numberOfTrailingZeros_0f7a4_62 rfl (lv_at hl 0 rfl) ?_
          refine lv_iconst (v := 4) hx hb dJ6_numberOfTrailingZeros_0f7a4_63 (by decide) ?_
          refine lv_icmp_le (tgt := 74) hx hb dJ6_numberOfTrailingZeros_0f7a4_64 (by decide) (fun c64 => ?_) (fun c64 => ?_)
          · refine lv_iload_n hx hb dJ6_numberOfTrailingZeros_0f7a4_74 rfl (lv_at hl 1 rfl) ?_
            refine lv_iload_n hx hb dJ6_numberOfTrailingZeros_0f7a4_75 rfl (lv_at hl 0 rfl) ?_
            refine lv_iconst (v := 1) hx hb dJ6_numberOfTrailingZeros_0f7a4_76 (by decide) ?_
            refine lv_iushr hx hb dJ6_numberOfTrailingZeros_0f7a4_77 rfl ?_
            refine lv_iadd hx hb dJ6_numberOfTrailingZeros_0f7a4_78 ?_
            exact r_i hx hb hr hlocks dJ6_numberOfTrailingZeros_0f7a4_79 (by simp only [ntz, ntz1, ntz2, ntz3, ntz4, ntz5, ← ez0, ← ez1, ← ez2, ← ez3, c9, c23, c38, c52, c64, if_true, if_false])
          · refine lv_iinc (v := (((1 + 16) + 8) + 4) + 2) (lv' := [(1, .int ((((1 + 16) + 8) + 4) + 2)), (0, .int z3)]) hx hb dJ6_numberOfTrailingZeros_0f7a4_67 hl (k := 1) rfl (by first | rfl | decide) (by decide) rfl (fun ls hl => ?_)
            refine lv_iload_n hx hb dJ6_numberOfTrailingZeros_0f7a4_70 rfl (lv_at hl 1 rfl) ?_
            refine lv_iconst (v := 2) hx hb dJ6_numberOfTrailingZeros_0f7a4_71 (by decide) ?_
            refine lv_iushr hx hb dJ6_numberOfTrailingZeros_0f7a4_72 rfl ?_
            refine lv_topi (fun z4 ez4 => ?_)
            refine lv_istore_n (lv' := [(0, .int z4), (1, .int ((((1 + 16) + 8) + 4) + 2))]) hx hb dJ6_numberOfTrailingZeros_0f7a4_73 rfl hl (by decide) rfl (fun ls hl => ?_)
            refine lv_iload_n hx hb dJ6_numberOfTrailingZeros_0f7a4_74 rfl (lv_at hl 1 rfl) ?_
            refine lv_iload_n hx hb dJ6_numberOfTrailingZeros_0f7a4_75 rfl (lv_at hl 0 rfl) ?_
            refine lv_iconst (v := 1) hx hb dJ6_numberOfTrailingZeros_0f7a4_76 (by decide) ?_
            refine lv_iushr hx hb dJ6_numberOfTrailingZeros_0f7a4_77 rfl ?_
            refine lv_iadd hx hb dJ6_numberOfTrailingZeros_0f7a4_78 ?_
            exact r_i hx hb hr hlocks dJ6_numberOfTrailingZeros_0f7a4_79 (by simp only [ntz, ntz1, ntz2, ntz3, ntz4, ntz5, ← ez0, ← ez1, ← ez2, ← ez3, ← ez4, c9, c23, c38, c52, c64, if_true, if_false])
  · refine lv_iload_n hx hb dJ6_numberOfTrailingZeros_0f7a4_12 rfl (lv_at hl 0 rfl) ?_
    refine lv_bipush (v := 32) hx hb dJ6_numberOfTrailingZeros_0f7a4_13 (by decide) ?_
    refine lv_iand hx hb dJ6_numberOfTrailingZeros_0f7a4_15 ?_
    exact r_i hx hb hr hlocks dJ6_numberOfTrailingZeros_0f7a4_16 (by simp only [ntz, ntz1, ntz2, ntz3, ntz4, ntz5, ← ez0, c9, if_true, if_false])
theorem in_X0_isAwakeIn_X0 : ∀ w ∈ u_ws RX0 TX0 5, w ∈ wsX0_isAwakeIn := by decide +kernel
set_option maxHeartbeats 4000000 in
set_option maxRecDepth 100000 in
theorem c_isAwakeIn (l : Launch) (E : gE) (A : Nat → Prop) (g : Nat → Nat) (M : gM) (tg tp : Nat) (ho fr wa be : Int32) (h : M tg = some (.inr (1, [.int ho, .int fr, .int wa, .int be, .ref (g tp)]))) (x : Int32) : Met l yX0_isAwakeIn wsX0_isAwakeIn ({ frames := 0, cells := 0, slots := 0, locals := 0 } : Room) (Pm E [.ref (g tg), .int x] (mP E A g M)) (k2_QcV (.int (bI (decide (wa ≤ x ∧ x < be))))) 0 0 (fun _ => False) := by
  refine m_entry (by decide) rfl (Nat.le_of_ble_eq_true rfl) ?_
  intro p e s m args below meth c hx hb hr hml hts hown hlocks hin hM hK ls hl
  have hl : lv_has ls 2 [(0, .ref (g tg)), (1, .int x)] := hl
  have hown : s.vm.findClass RX0 = some m.cls := hown
  refine lv_iload_n hx hb dX0_isAwakeIn_0 rfl (lv_at hl 1 rfl) ?_
  refine lv_aload_n hx hb dX0_isAwakeIn_1 rfl (lv_at hl 0 rfl) ?_
  refine m_get hx hb hts in_X0_isAwakeIn_X0 hown hK hM h rfl 2 (by decide) (by decide +kernel) rfl dX0_isAwakeIn_2 ?_
  refine lv_icmp_lt (tgt := 20) hx hb dX0_isAwakeIn_5 (by decide) (fun c5 => ?_) (fun c5 => ?_)
  · refine lv_iconst (v := 0) hx hb dX0_isAwakeIn_20 (by decide) ?_
    exact r_z hx hb hr hlocks dX0_isAwakeIn_21 (bI_zero (decide_eq_false (by first | omega | (simp only [Int32.le_iff_toInt_le, Int32.lt_iff_toInt_lt, ← Int32.toInt_inj] at c5 ⊢; omega))))
  · refine lv_iload_n hx hb dX0_isAwakeIn_8 rfl (lv_at hl 1 rfl) ?_
    refine lv_aload_n hx hb dX0_isAwakeIn_9 rfl (lv_at hl 0 rfl) ?_
    refine m_get hx hb hts in_X0_isAwakeIn_X0 hown hK hM h rfl 3 (by decide) (by decide +kernel) rfl dX0_isAwakeIn_10 ?_
    refine lv_icmp_ge (tgt := 20) hx hb dX0_isAwakeIn_13 (by decide) (fun c13 => ?_) (fun c13 => ?_)
    · refine lv_iconst (v := 0) hx hb dX0_isAwakeIn_20 (by decide) ?_
      exact r_z hx hb hr hlocks dX0_isAwakeIn_21 (bI_zero (decide_eq_false (by first | omega | (simp only [Int32.le_iff_toInt_le, Int32.lt_iff_toInt_lt, ← Int32.toInt_inj] at c5 c13 ⊢; omega))))
    · refine lv_iconst (v := 1) hx hb dX0_isAwakeIn_16 (by decide) ?_
      refine lv_goto (tgt := 21) hx hb dX0_isAwakeIn_17 (by decide) ?_
      exact r_z hx hb hr hlocks dX0_isAwakeIn_21 (bI_one (decide_eq_true (by first | omega | (simp only [Int32.le_iff_toInt_le, Int32.lt_iff_toInt_lt, ← Int32.toInt_inj] at c5 c13 ⊢; omega))))
theorem in_X0_placeIn_X0 : ∀ w ∈ u_ws RX0 TX0 5, w ∈ wsX0_placeIn := by decide +kernel
set_option maxHeartbeats 4000000 in
set_option maxRecDepth 100000 in
theorem c_placeIn (l : Launch) (E : gE) (A : Nat → Prop) (g : Nat → Nat) (M : gM) (tg tp : Nat) (ho fr wa be : Int32) (h : M tg = some (.inr (1, [.int ho, .int fr, .int wa, .int be, .ref (g tp)]))) (f : Nat → Int32) (h2 : M tp = some (.inl (E.2.1, 12, .inl f))) (j : Nat) (hj : j < 12) : Met l yX0_placeIn wsX0_placeIn ({ frames := 0, cells := 0, slots := 0, locals := 0 } : Room) (Pm E [.ref (g tg), .int (nI j)] (mP E A g M)) (k2_QcV (.int (f j))) 0 0 (fun _ => False) := by
  refine m_entry (by decide) rfl (Nat.le_of_ble_eq_true rfl) ?_
  intro p e s m args below meth c hx hb hr hml hts hown hlocks hin hM hK ls hl
  have hl : lv_has ls 2 [(0, .ref (g tg)), (1, .int (nI j))] := hl
  have hown : s.vm.findClass RX0 = some m.cls := hown
  refine lv_iload_n hx hb dX0_placeIn_0 rfl (lv_at hl 1 rfl) ?_
  refine lv_if_lt (tgt := 22) hx hb dX0_placeIn_1 (by decide) (fun c9 => absurd c9 (nI_pos (by omega))) (fun c1 => ?_)
  refine lv_iload_n hx hb dX0_placeIn_4 rfl (lv_at hl 1 rfl) ?_
  refine lv_aload_n hx hb dX0_placeIn_5 rfl (lv_at hl 0 rfl) ?_
  refine m_get hx hb hts in_X0_placeIn_X0 hown hK hM h rfl 4 (by decide) (by decide +kernel) rfl dX0_placeIn_6 ?_
  refine m_alen (v := nI 12) hx hb hK hM h2 rfl dX0_placeIn_9 ?_
  refine lv_icmp_ge (tgt := 22) hx hb dX0_placeIn_10 (by decide) (fun c9 => absurd c9 (nI_ge hj (by decide))) (fun c10 => ?_)
  refine lv_aload_n hx hb dX0_placeIn_13 rfl (lv_at hl 0 rfl) ?_
  refine m_get hx hb hts in_X0_placeIn_X0 hown hK hM h rfl 4 (by decide) (by decide +kernel) rfl dX0_placeIn_14 ?_
  refine lv_iload_n hx hb dX0_placeIn_17 rfl (lv_at hl 1 rfl) ?_
  refine m_iald (v := f j) hx hb hK hM h2 (ix_ok ⟨hj, by decide⟩) (rd_ok (by omega) rfl) dX0_placeIn_18 ?_
  refine lv_goto (tgt := 23) hx hb dX0_placeIn_19 (by decide) ?_
  exact r_i hx hb hr hlocks dX0_placeIn_23 (by first | rfl | assumption)
theorem in_X1_hasBid_X1 : ∀ w ∈ u_ws RX1 TX1 7, w ∈ wsX1_hasBid := by decide +kernel
set_option maxHeartbeats 4000000 in
set_option maxRecDepth 100000 in
theorem c_hasBid (l : Launch) (E : gE) (A : Nat → Prop) (g : Nat → Nat) (M : gM) (tu : Nat) (ne co nv fo pr sl ba : Int32) (h : M tu = some (.inr (2, [.int ne, .int co, .int nv, .int fo, .int pr, .int sl, .int ba]))) : Met l yX1_hasBid wsX1_hasBid ({ frames := 0, cells := 0, slots := 0, locals := 0 } : Room) (Pm E [.ref (g tu)] (mP E A g M)) (k2_QcV (.int (bI (decide (¬ fo = -1))))) 0 0 (fun _ => False) := by
  refine m_entry (by decide) rfl (Nat.le_of_ble_eq_true rfl) ?_
  intro p e s m args below meth c hx hb hr hml hts hown hlocks hin hM hK ls hl
  have hl : lv_has ls 1 [(0, .ref (g tu))] := hl
  have hown : s.vm.findClass RX1 = some m.cls := hown
  refine lv_aload_n hx hb dX1_hasBid_0 rfl (lv_at hl 0 rfl) ?_
  refine m_get hx hb hts in_X1_hasBid_X1 hown hK hM h rfl 3 (by decide) (by decide +kernel) rfl dX1_hasBid_1 ?_
  refine lv_iconst (v := (-1)) hx hb dX1_hasBid_4 (by decide) ?_
  refine lv_icmp_eq (tgt := 12) hx hb dX1_hasBid_5 (by decide) (fun c5 => ?_) (fun c5 => ?_)
  · refine lv_iconst (v := 0) hx hb dX1_hasBid_12 (by decide) ?_
    exact r_z hx hb hr hlocks dX1_hasBid_13 (bI_zero (decide_eq_false (by first | omega | (simp only [Int32.le_iff_toInt_le, Int32.lt_iff_toInt_lt, ← Int32.toInt_inj] at c5 ⊢; omega))))
  · refine lv_iconst (v := 1) hx hb dX1_hasBid_8 (by decide) ?_
    refine lv_goto (tgt := 13) hx hb dX1_hasBid_9 (by decide) ?_
    exact r_z hx hb hr hlocks dX1_hasBid_13 (bI_one (decide_eq_true (by first | omega | (simp only [Int32.le_iff_toInt_le, Int32.lt_iff_toInt_lt, ← Int32.toInt_inj] at c5 ⊢; omega))))
theorem in_X1_couldBidFor_X1 : ∀ w ∈ u_ws RX1 TX1 7, w ∈ wsX1_couldBidFor := by decide +kernel
theorem in_X1_couldBidFor_X2 : ∀ w ∈ u_ws RX2 TX2 6, w ∈ wsX1_couldBidFor := by decide +kernel
set_option maxHeartbeats 4000000 in
set_option maxRecDepth 100000 in
theorem c_couldBidFor (l : Launch) (E : gE) (A : Nat → Prop) (g : Nat → Nat) (M : gM) (tu : Nat) (ne co nv fo pr sl ba : Int32) (h : M tu = some (.inr (2, [.int ne, .int co, .int nv, .int fo, .int pr, .int sl, .int ba]))) (tr : Nat) (rb rl rc rn re rd : Int32) (h9 : M tr = some (.inr (3, [.int rb, .int rl, .int rc, .int rn, .int re, .int rd]))) : Met l yX1_couldBidFor wsX1_couldBidFor ({ frames := 0, cells := 0, slots := 0, locals := 0 } : Room) (Pm E [.ref (g tu), .ref (g tr)] (mP E A g M)) (k2_QcV (.int (bI (decide (pr ≤ co ∧ ne ≤ rb ∧ rl ≤ pr))))) 0 0 (fun _ => False) := by
  refine m_entry (by decide) rfl (Nat.le_of_ble_eq_true rfl) ?_
  intro p e s m args below meth c hx hb hr hml hts hown hlocks hin hM hK ls hl
  have hl : lv_has ls 2 [(0, .ref (g tu)), (1, .ref (g tr))] := hl
  have hown : s.vm.findClass RX1 = some m.cls := hown
  refine lv_aload_n hx hb dX1_couldBidFor_0 rfl (lv_at hl 0 rfl) ?_
  refine m_get hx hb hts in_X1_couldBidFor_X1 hown hK hM h rfl 1 (by decide) (by decide +kernel) rfl dX1_couldBidFor_1 ?_
  refine lv_aload_n hx hb dX1_couldBidFor_4 rfl (lv_at hl 0 rfl) ?_
  refine m_get hx hb hts in_X1_couldBidFor_X1 hown hK hM h rfl 4 (by decide) (by decide +kernel) rfl dX1_couldBidFor_5 ?_
  refine lv_icmp_lt (tgt := 37) hx hb dX1_couldBidFor_8 (by decide) (fun c8 => ?_) (fun c8 => ?_)
  · refine lv_iconst (v := 0) hx hb dX1_couldBidFor_37 (by decide) ?_
    exact r_z hx hb hr hlocks dX1_couldBidFor_38 (bI_zero (decide_eq_false (by first | omega | (simp only [Int32.le_iff_toInt_le, Int32.lt_iff_toInt_lt, ← Int32.toInt_inj] at c8 ⊢; omega))))
  · refine lv_aload_n hx hb dX1_couldBidFor_11 rfl (lv_at hl 1 rfl) ?_
    refine m_get hx hb hts in_X1_couldBidFor_X2 hown hK hM h9 rfl 0 (by decide) (by decide +kernel) rfl dX1_couldBidFor_12 ?_
    refine lv_aload_n hx hb dX1_couldBidFor_15 rfl (lv_at hl 0 rfl) ?_
    refine m_get hx hb hts in_X1_couldBidFor_X1 hown hK hM h rfl 0 (by decide) (by decide +kernel) rfl dX1_couldBidFor_16 ?_
    refine lv_icmp_lt (tgt := 37) hx hb dX1_couldBidFor_19 (by decide) (fun c19 => ?_) (fun c19 => ?_)
    · refine lv_iconst (v := 0) hx hb dX1_couldBidFor_37 (by decide) ?_
      exact r_z hx hb hr hlocks dX1_couldBidFor_38 (bI_zero (decide_eq_false (by first | omega | (simp only [Int32.le_iff_toInt_le, Int32.lt_iff_toInt_lt, ← Int32.toInt_inj] at c8 c19 ⊢; omega))))
    · refine lv_aload_n hx hb dX1_couldBidFor_22 rfl (lv_at hl 0 rfl) ?_
      refine m_get hx hb hts in_X1_couldBidFor_X1 hown hK hM h rfl 4 (by decide) (by decide +kernel) rfl dX1_couldBidFor_23 ?_
      refine lv_aload_n hx hb dX1_couldBidFor_26 rfl (lv_at hl 1 rfl) ?_
      refine m_get hx hb hts in_X1_couldBidFor_X2 hown hK hM h9 rfl 1 (by decide) (by decide +kernel) rfl dX1_couldBidFor_27 ?_
      refine lv_icmp_lt (tgt := 37) hx hb dX1_couldBidFor_30 (by decide) (fun c30 => ?_) (fun c30 => ?_)
      · refine lv_iconst (v := 0) hx hb dX1_couldBidFor_37 (by decide) ?_
        exact r_z hx hb hr hlocks dX1_couldBidFor_38 (bI_zero (decide_eq_false (by first | omega | (simp only [Int32.le_iff_toInt_le, Int32.lt_iff_toInt_lt, ← Int32.toInt_inj] at c8 c19 c30 ⊢; omega))))
      · refine lv_iconst (v := 1) hx hb dX1_couldBidFor_33 (by decide) ?_
        refine lv_goto (tgt := 38) hx hb dX1_couldBidFor_34 (by decide) ?_
        exact r_z hx hb hr hlocks dX1_couldBidFor_38 (bI_one (decide_eq_true (by first | omega | (simp only [Int32.le_iff_toInt_le, Int32.lt_iff_toInt_lt, ← Int32.toInt_inj] at c8 c19 c30 ⊢; omega))))
theorem in_X1_isFrightenedBy_X1 : ∀ w ∈ u_ws RX1 TX1 7, w ∈ wsX1_isFrightenedBy := by decide +kernel
set_option maxHeartbeats 4000000 in
set_option maxRecDepth 100000 in
theorem c_isFrightenedBy (l : Launch) (E : gE) (A : Nat → Prop) (g : Nat → Nat) (M : gM) (tu : Nat) (ne co nv fo pr sl ba : Int32) (h : M tu = some (.inr (2, [.int ne, .int co, .int nv, .int fo, .int pr, .int sl, .int ba]))) (x : Int32) : Met l yX1_isFrightenedBy wsX1_isFrightenedBy ({ frames := 0, cells := 0, slots := 0, locals := 0 } : Room) (Pm E [.ref (g tu), .int x] (mP E A g M)) (k2_QcV (.int (bI (decide (0 ≤ nv ∧ nv < x))))) 0 0 (fun _ => False) := by
  refine m_entry (by decide) rfl (Nat.le_of_ble_eq_true rfl) ?_
  intro p e s m args below meth c hx hb hr hml hts hown hlocks hin hM hK ls hl
  have hl : lv_has ls 2 [(0, .ref (g tu)), (1, .int x)] := hl
  have hown : s.vm.findClass RX1 = some m.cls := hown
  refine lv_aload_n hx hb dX1_isFrightenedBy_0 rfl (lv_at hl 0 rfl) ?_
  refine m_get hx hb hts in_X1_isFrightenedBy_X1 hown hK hM h rfl 2 (by decide) (by decide +kernel) rfl dX1_isFrightenedBy_1 ?_
  refine lv_if_lt (tgt := 19) hx hb dX1_isFrightenedBy_4 (by decide) (fun c4 => ?_) (fun c4 => ?_)
  · refine lv_iconst (v := 0) hx hb dX1_isFrightenedBy_19 (by decide) ?_
    exact r_z hx hb hr hlocks dX1_isFrightenedBy_20 (bI_zero (decide_eq_false (by first | omega | (simp only [Int32.le_iff_toInt_le, Int32.lt_iff_toInt_lt, ← Int32.toInt_inj] at c4 ⊢; omega))))
  · refine lv_iload_n hx hb dX1_isFrightenedBy_7 rfl (lv_at hl 1 rfl) ?_
    refine lv_aload_n hx hb dX1_isFrightenedBy_8 rfl (lv_at hl 0 rfl) ?_
    refine m_get hx hb hts in_X1_isFrightenedBy_X1 hown hK hM h rfl 2 (by decide) (by decide +kernel) rfl dX1_isFrightenedBy_9 ?_
    refine lv_icmp_le (tgt := 19) hx hb dX1_isFrightenedBy_12 (by decide) (fun c12 => ?_) (fun c12 => ?_)
    · refine lv_iconst (v := 0) hx hb dX1_isFrightenedBy_19 (by decide) ?_
      exact r_z hx hb hr hlocks dX1_isFrightenedBy_20 (bI_zero (decide_eq_false (by first | omega | (simp only [Int32.le_iff_toInt_le, Int32.lt_iff_toInt_lt, ← Int32.toInt_inj] at c4 c12 ⊢; omega))))
    · refine lv_iconst (v := 1) hx hb dX1_isFrightenedBy_15 (by decide) ?_
      refine lv_goto (tgt := 20) hx hb dX1_isFrightenedBy_16 (by decide) ?_
      exact r_z hx hb hr hlocks dX1_isFrightenedBy_20 (bI_one (decide_eq_true (by first | omega | (simp only [Int32.le_iff_toInt_le, Int32.lt_iff_toInt_lt, ← Int32.toInt_inj] at c4 c12 ⊢; omega))))
theorem in_X1_isUpsetBy_X1 : ∀ w ∈ u_ws RX1 TX1 7, w ∈ wsX1_isUpsetBy := by decide +kernel
set_option maxHeartbeats 4000000 in
set_option maxRecDepth 100000 in
theorem c_isUpsetBy (l : Launch) (E : gE) (A : Nat → Prop) (g : Nat → Nat) (M : gM) (tu : Nat) (ne co nv fo pr sl ba : Int32) (h : M tu = some (.inr (2, [.int ne, .int co, .int nv, .int fo, .int pr, .int sl, .int ba]))) (x : Int32) : Met l yX1_isUpsetBy wsX1_isUpsetBy ({ frames := 1, cells := 0, slots := 0, locals := 21 } : Room) (Pm E [.ref (g tu), .int x] (mP E A g M)) (k2_QcV (.int (bI (decide (nv < 0 ∧ x < -nv ∨ 0 ≤ nv ∧ nv < x))))) 0 0 (fun _ => False) := by
  refine m_entry (by decide) rfl (Nat.le_of_ble_eq_true rfl) ?_
  intro p e s m args below meth c hx hb hr hml hts hown hlocks hin hM hK ls hl
  have hl : lv_has ls 3 [(0, .ref (g tu)), (1, .int x)] := hl
  have hown : s.vm.findClass RX1 = some m.cls := hown
  refine lv_aload_n hx hb dX1_isUpsetBy_0 rfl (lv_at hl 0 rfl) ?_
  refine m_get hx hb hts in_X1_isUpsetBy_X1 hown hK hM h rfl 2 (by decide) (by decide +kernel) rfl dX1_isUpsetBy_1 ?_
  refine lv_if_ge (tgt := 20) hx hb dX1_isUpsetBy_4 (by decide) (fun c4 => ?_) (fun c4 => ?_)
  · refine lv_iconst (v := 0) hx hb dX1_isUpsetBy_20 (by decide) ?_
    refine lv_istore_n (lv' := [(2, .int 0), (0, .ref (g tu)), (1, .int x)]) hx hb dX1_isUpsetBy_21 rfl hl (by decide) rfl (fun ls hl => ?_)
    refine lv_iload_n hx hb dX1_isUpsetBy_22 rfl (lv_at hl 0 rfl) ?_
    refine lv_if_ne (tgt := 34) hx hb dX1_isUpsetBy_23 (by decide) (fun c9 => absurd c9 (by decide)) (fun c9 => ?_)
    refine lv_aload_n hx hb dX1_isUpsetBy_26 rfl (lv_at hl 1 rfl) ?_
    refine lv_iload_n hx hb dX1_isUpsetBy_27 rfl (lv_at hl 2 rfl) ?_
    refine m_cV 1 [.int x] [] hx hb hml hown hts hK (c_isFrightenedBy l E A g M tu ne co nv fo pr sl ba h x) gX1_isUpsetBy_X1_isFrightenedBy rfl rfl rfl (by decide +kernel) rfl ⟨Nat.le_of_ble_eq_true rfl, Nat.le_of_ble_eq_true rfl⟩ hM h rfl rfl hM hl.1 (Nat.le_of_ble_eq_true rfl) ⟨Nat.le_of_ble_eq_true rfl, Nat.le_of_ble_eq_true rfl⟩ rfl dX1_isUpsetBy_28 ?_
    refine lv_if_eq (tgt := 38) hx hb dX1_isUpsetBy_31 (by decide) (fun c31 => ?_) (fun c31 => ?_)
    · have c31 := of_decide_eq_false (bI_f c31)
      refine lv_iconst (v := 0) hx hb dX1_isUpsetBy_38 (by decide) ?_
      exact r_z hx hb hr hlocks dX1_isUpsetBy_39 (bI_zero (decide_eq_false (by first | omega | (simp only [Int32.le_iff_toInt_le, Int32.lt_iff_toInt_lt, ← Int32.toInt_inj] at c4 c31 ⊢; omega))))
    · have c31 := of_decide_eq_true (bI_t c31)
      refine lv_iconst (v := 1) hx hb dX1_isUpsetBy_34 (by decide) ?_
      refine lv_goto (tgt := 39) hx hb dX1_isUpsetBy_35 (by decide) ?_
      exact r_z hx hb hr hlocks dX1_isUpsetBy_39 (bI_one (decide_eq_true (by first | omega | (simp only [Int32.le_iff_toInt_le, Int32.lt_iff_toInt_lt, ← Int32.toInt_inj] at c4 c31 ⊢; omega))))
  · refine lv_iload_n hx hb dX1_isUpsetBy_7 rfl (lv_at hl 1 rfl) ?_
    refine lv_aload_n hx hb dX1_isUpsetBy_8 rfl (lv_at hl 0 rfl) ?_
    refine m_get hx hb hts in_X1_isUpsetBy_X1 hown hK hM h rfl 2 (by decide) (by decide +kernel) rfl dX1_isUpsetBy_9 ?_
    refine lv_ineg hx hb dX1_isUpsetBy_12 ?_
    refine lv_icmp_ge (tgt := 20) hx hb dX1_isUpsetBy_13 (by decide) (fun c13 => ?_) (fun c13 => ?_)
    · refine lv_iconst (v := 0) hx hb dX1_isUpsetBy_20 (by decide) ?_
      refine lv_istore_n (lv' := [(2, .int 0), (0, .ref (g tu)), (1, .int x)]) hx hb dX1_isUpsetBy_21 rfl hl (by decide) rfl (fun ls hl => ?_)
      refine lv_iload_n hx hb dX1_isUpsetBy_22 rfl (lv_at hl 0 rfl) ?_
      refine lv_if_ne (tgt := 34) hx hb dX1_isUpsetBy_23 (by decide) (fun c9 => absurd c9 (by decide)) (fun c9 => ?_)
      refine lv_aload_n hx hb dX1_isUpsetBy_26 rfl (lv_at hl 1 rfl) ?_
      refine lv_iload_n hx hb dX1_isUpsetBy_27 rfl (lv_at hl 2 rfl) ?_
      refine m_cV 1 [.int x] [] hx hb hml hown hts hK (c_isFrightenedBy l E A g M tu ne co nv fo pr sl ba h x) gX1_isUpsetBy_X1_isFrightenedBy rfl rfl rfl (by decide +kernel) rfl ⟨Nat.le_of_ble_eq_true rfl, Nat.le_of_ble_eq_true rfl⟩ hM h rfl rfl hM hl.1 (Nat.le_of_ble_eq_true rfl) ⟨Nat.le_of_ble_eq_true rfl, Nat.le_of_ble_eq_true rfl⟩ rfl dX1_isUpsetBy_28 ?_
      refine lv_if_eq (tgt := 38) hx hb dX1_isUpsetBy_31 (by decide) (fun c31 => ?_) (fun c31 => ?_)
      · have c31 := of_decide_eq_false (bI_f c31)
        refine lv_iconst (v := 0) hx hb dX1_isUpsetBy_38 (by decide) ?_
        exact r_z hx hb hr hlocks dX1_isUpsetBy_39 (bI_zero (decide_eq_false (by first | omega | (simp only [Int32.le_iff_toInt_le, Int32.lt_iff_toInt_lt, ← Int32.toInt_inj] at c4 c13 c31 ⊢; omega))))
      · have c31 := of_decide_eq_true (bI_t c31)
        refine lv_iconst (v := 1) hx hb dX1_isUpsetBy_34 (by decide) ?_
        refine lv_goto (tgt := 39) hx hb dX1_isUpsetBy_35 (by decide) ?_
        exact r_z hx hb hr hlocks dX1_isUpsetBy_39 (bI_one (decide_eq_true (by first | omega | (simp only [Int32.le_iff_toInt_le, Int32.lt_iff_toInt_lt, ← Int32.toInt_inj] at c4 c13 c31 ⊢; omega))))
    · refine lv_iconst (v := 1) hx hb dX1_isUpsetBy_16 (by decide) ?_
      refine lv_goto (tgt := 21) hx hb dX1_isUpsetBy_17 (by decide) ?_
      refine lv_istore_n (lv' := [(2, .int 1), (0, .ref (g tu)), (1, .int x)]) hx hb dX1_isUpsetBy_21 rfl hl (by decide) rfl (fun ls hl => ?_)
      refine lv_iload_n hx hb dX1_isUpsetBy_22 rfl (lv_at hl 0 rfl) ?_
      refine lv_if_ne (tgt := 34) hx hb dX1_isUpsetBy_23 (by decide) (fun c9 => ?_) (fun c9 => absurd c9 (by decide))
      refine lv_iconst (v := 1) hx hb dX1_isUpsetBy_34 (by decide) ?_
      refine lv_goto (tgt := 39) hx hb dX1_isUpsetBy_35 (by decide) ?_
      exact r_z hx hb hr hlocks dX1_isUpsetBy_39 (bI_one (decide_eq_true (by first | omega | (simp only [Int32.le_iff_toInt_le, Int32.lt_iff_toInt_lt, ← Int32.toInt_inj] at c4 c13 ⊢; omega))))
theorem in_X2_leadsTo_X2 : ∀ w ∈ u_ws RX2 TX2 6, w ∈ wsX2_leadsTo := by decide +kernel
set_option maxHeartbeats 4000000 in
set_option maxRecDepth 100000 in
theorem c_leadsTo (l : Launch) (E : gE) (A : Nat → Prop) (g : Nat → Nat) (M : gM) (tr : Nat) (rb rl rc rn re rd : Int32) (h9 : M tr = some (.inr (3, [.int rb, .int rl, .int rc, .int rn, .int re, .int rd]))) (j : Nat) : Met l yX2_leadsTo wsX2_leadsTo ({ frames := 0, cells := 0, slots := 0, locals := 0 } : Room) (Pm E [.ref (g tr), .int (nI j)] (mP E A g M)) (k2_QcV (.int (bI (bitAt rd j)))) 0 0 (fun _ => False) := by
  refine m_entry (by decide) rfl (Nat.le_of_ble_eq_true rfl) ?_
  intro p e s m args below meth c hx hb hr hml hts hown hlocks hin hM hK ls hl
  have hl : lv_has ls 2 [(0, .ref (g tr)), (1, .int (nI j))] := hl
  have hown : s.vm.findClass RX2 = some m.cls := hown
  refine lv_aload_n hx hb dX2_leadsTo_0 rfl (lv_at hl 0 rfl) ?_
  refine m_get hx hb hts in_X2_leadsTo_X2 hown hK hM h9 rfl 5 (by decide) (by decide +kernel) rfl dX2_leadsTo_1 ?_
  refine lv_iload_n hx hb dX2_leadsTo_4 rfl (lv_at hl 1 rfl) ?_
  refine lv_ishr hx hb dX2_leadsTo_5 ?_
  refine lv_iconst (v := 1) hx hb dX2_leadsTo_6 (by decide) ?_
  refine lv_iand hx hb dX2_leadsTo_7 ?_
  refine lv_iconst (v := 1) hx hb dX2_leadsTo_8 (by decide) ?_
  refine lv_icmp_ne (tgt := 16) hx hb dX2_leadsTo_9 (by decide) (fun c9 => ?_) (fun c9 => ?_)
  · refine lv_iconst (v := 0) hx hb dX2_leadsTo_16 (by decide) ?_
    exact r_z hx hb hr hlocks dX2_leadsTo_17 (bI_zero (decide_eq_false (by first | omega | (simp only [Int32.le_iff_toInt_le, Int32.lt_iff_toInt_lt, ← Int32.toInt_inj] at c9 ⊢; omega))))
  · refine lv_iconst (v := 1) hx hb dX2_leadsTo_12 (by decide) ?_
    refine lv_goto (tgt := 17) hx hb dX2_leadsTo_13 (by decide) ?_
    exact r_z hx hb hr hlocks dX2_leadsTo_17 (bI_one (decide_eq_true (by first | omega | (simp only [Int32.le_iff_toInt_le, Int32.lt_iff_toInt_lt, ← Int32.toInt_inj] at c9 ⊢; omega))))
theorem in_X2_doorsThere_X2 : ∀ w ∈ u_ws RX2 TX2 6, w ∈ wsX2_doorsThere := by decide +kernel
set_option maxHeartbeats 4000000 in
set_option maxRecDepth 100000 in
theorem c_doorsThere (l : Launch) (E : gE) (A : Nat → Prop) (g : Nat → Nat) (M : gM) (tr : Nat) (rb rl rc rn re rd : Int32) (h9 : M tr = some (.inr (3, [.int rb, .int rl, .int rc, .int rn, .int re, .int rd]))) : Met l yX2_doorsThere wsX2_doorsThere ({ frames := 1, cells := 0, slots := 0, locals := 20 } : Room) (Pm E [.ref (g tr)] (mP E A g M)) (k2_QcV (.int (bitC rd))) 0 0 (fun _ => False) := by
  refine m_entry (by decide) rfl (Nat.le_of_ble_eq_true rfl) ?_
  intro p e s m args below meth c hx hb hr hml hts hown hlocks hin hM hK ls hl
  have hl : lv_has ls 1 [(0, .ref (g tr))] := hl
  have hown : s.vm.findClass RX2 = some m.cls := hown
  refine lv_aload_n hx hb dX2_doorsThere_0 rfl (lv_at hl 0 rfl) ?_
  refine m_get hx hb hts in_X2_doorsThere_X2 hown hK hM h9 rfl 5 (by decide) (by decide +kernel) rfl dX2_doorsThere_1 ?_
  refine m_cS 1 [.int rd] [] hx hb hml hown hts hK (c_bitCount l E A g M rd) gX2_doorsThere_J6_bitCount_0f7a4 rfl rfl rfl (by decide +kernel) rfl ⟨Nat.le_of_ble_eq_true rfl, Nat.le_of_ble_eq_true rfl⟩ trivial hl.1 (Nat.le_of_ble_eq_true rfl) ⟨Nat.le_of_ble_eq_true rfl, Nat.le_of_ble_eq_true rfl⟩ rfl dX2_doorsThere_4 ?_
  exact r_i hx hb hr hlocks dX2_doorsThere_7 (by first | rfl | assumption)
set_option maxHeartbeats 4000000 in
set_option maxRecDepth 100000 in
theorem c_within (l : Launch) (E : gE) (A : Nat → Prop) (g : Nat → Nat) (M : gM) (x lo hi : Int32) : Met l yX4_within wsX4_within ({ frames := 0, cells := 0, slots := 0, locals := 0 } : Room) (Pm E [.int x, .int lo, .int hi] (fun _ => True)) (k2_QcV (.int (bI (decide (lo ≤ x ∧ x ≤ hi))))) 0 0 (fun _ => False) := by
  refine m_entry (by decide) rfl (Nat.le_of_ble_eq_true rfl) ?_
  intro p e s m args below meth c hx hb hr hml hts hown hlocks hin _ hK ls hl
  have hl : lv_has ls 3 [(0, .int x), (1, .int lo), (2, .int hi)] := hl
  have hown : s.vm.findClass RX4 = some m.cls := hown
  refine lv_iload_n hx hb dX4_within_0 rfl (lv_at hl 0 rfl) ?_
  refine lv_iload_n hx hb dX4_within_1 rfl (lv_at hl 1 rfl) ?_
  refine lv_icmp_lt (tgt := 14) hx hb dX4_within_2 (by decide) (fun c2 => ?_) (fun c2 => ?_)
  · refine lv_iconst (v := 0) hx hb dX4_within_14 (by decide) ?_
    exact r_z hx hb hr hlocks dX4_within_15 (bI_zero (decide_eq_false (by first | omega | (simp only [Int32.le_iff_toInt_le, Int32.lt_iff_toInt_lt, ← Int32.toInt_inj] at c2 ⊢; omega))))
  · refine lv_iload_n hx hb dX4_within_5 rfl (lv_at hl 0 rfl) ?_
    refine lv_iload_n hx hb dX4_within_6 rfl (lv_at hl 2 rfl) ?_
    refine lv_icmp_gt (tgt := 14) hx hb dX4_within_7 (by decide) (fun c7 => ?_) (fun c7 => ?_)
    · refine lv_iconst (v := 0) hx hb dX4_within_14 (by decide) ?_
      exact r_z hx hb hr hlocks dX4_within_15 (bI_zero (decide_eq_false (by first | omega | (simp only [Int32.le_iff_toInt_le, Int32.lt_iff_toInt_lt, ← Int32.toInt_inj] at c2 c7 ⊢; omega))))
    · refine lv_iconst (v := 1) hx hb dX4_within_10 (by decide) ?_
      refine lv_goto (tgt := 15) hx hb dX4_within_11 (by decide) ?_
      exact r_z hx hb hr hlocks dX4_within_15 (bI_one (decide_eq_true (by first | omega | (simp only [Int32.le_iff_toInt_le, Int32.lt_iff_toInt_lt, ← Int32.toInt_inj] at c2 c7 ⊢; omega))))
