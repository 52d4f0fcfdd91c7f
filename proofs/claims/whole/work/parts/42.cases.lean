/-! THE LAW'S CASES -/
theorem nan_dcmp {a b : UInt64} (h : isNaN64 a = true) : FP.dcmp a b = none := by
  have e : FP.Core.decode FP.Core.b64 a.toNat = .nan := by
    rw [isNaN64_iff] at h
    have h2 : a.toNat &&& 0x7fffffffffffffff = a.toNat % 2 ^ 63 := Nat.and_two_pow_sub_one_eq_mod a.toNat 63
    rw [h2] at h
    have hE : FP.Core.fieldE FP.Core.b64 a.toNat = 2047 := by
      show a.toNat / 4503599627370496 % 2048 = 2047
      omega
    have hT : ¬ FP.Core.fieldT FP.Core.b64 a.toNat = 0 := by
      show ¬ a.toNat % 4503599627370496 = 0
      omega
    unfold FP.Core.decode
    rw [hE, if_pos (by decide), if_neg hT]
  show FP.Core.order (FP.Core.decode FP.Core.b64 a.toNat) (FP.Core.decode FP.Core.b64 b.toNat) = none
  rw [e]
  rfl
theorem mean_cmp {r1 r2 x : UInt64} (h1 : alike64 r1 x = true) (h2 : alike64 r2 x = true) : Op.cmpValue (FP.dcmp r1 r2) CmpOp.l = 0 ∨ (¬ Op.cmpValue (FP.dcmp r1 r1) CmpOp.l = 0 ∧ ¬ Op.cmpValue (FP.dcmp r2 r2) CmpOp.l = 0) := by
  have nn : ¬ Op.cmpValue none CmpOp.l = 0 := by decide
  have key : r1 = r2 ∨ (isNaN64 r1 = true ∧ isNaN64 r2 = true) := by
    simp only [alike64, Bool.or_eq_true, Bool.and_eq_true, decide_eq_true_eq] at h1 h2
    rcases h1 with h1 | ⟨h1, h1x⟩ <;> rcases h2 with h2 | ⟨h2, h2x⟩
    · exact Or.inl (h1.trans h2.symm)
    · exact Or.inr ⟨by rw [h1]; exact h2x, h2⟩
    · exact Or.inr ⟨h1, by rw [h2]; exact h1x⟩
    · exact Or.inr ⟨h1, h2⟩
  rcases key with rfl | ⟨a1, a2⟩
  · by_cases h : Op.cmpValue (FP.dcmp r1 r1) CmpOp.l = 0
    · exact Or.inl h
    · exact Or.inr ⟨h, h⟩
  · exact Or.inr ⟨by rw [nan_dcmp a1]; exact nn, by rw [nan_dcmp a2]; exact nn⟩
theorem LI.out {E : gE} {N x0 m0 qo : Nat} {σ1 σ2 : Sg} {th : Int32} {f : Nat → Int64} {H : Heap} (h : LI E N x0 m0 qo σ1 σ2 th f H) : oC E qo f H := by
  obtain ⟨g1, M1, g2, M2, -, -, ⟨c1, -⟩, -⟩ := h
  exact c1
theorem oBd_01 (σ : Sg) (x y z : Int32) : (oBd σ x y z).2.1 = 0 ∨ (oBd σ x y z).2.1 = 1 := by
  unfold oBd
  split
  · split
    · generalize sui _ _ _ = q
      cases q
      · exact Or.inl rfl
      · exact Or.inr rfl
    · exact Or.inl rfl
  · exact Or.inl rfl
section LB
variable {p : Program} {l : Launch} {e : Env} {s : State} {m : MethodId} {args : Array Value} {below : List Frame} {meth : Method} {c : Code} {H : Heap} {locs : List Loc} {cells slots : Nat} {Q : State → Prop}
variable {ls : Array Slot} {E : gE} {x0 m0 qo b L i : Nat} {xs : Nat → Int32} {σ : Sg} {th : Int32} {f : Nat → Int64} {cc : ByteArray} {pc : Nat} {rest : List Value} {R : Room}
theorem l_sc {lvs : List (Nat × Value)} {j0 j4 : Nat} (hx : p.tables.exec = Jvm.exec) (hb : c.code = cc) (hX : va_X b L xs s s.heap) (hbl : b < s.heap.size) (hL : L ≤ 2560) (hS : va_S (fun q => s.heap.size ≤ q) s.heap H locs) (hl : lv_has ls 9 lvs) (h0 : lvs[j0]? = some (0, .ref b)) (h4 : lvs[j4]? = some (4, .int (nI i))) (k : Nat) (hk : i + k < L)
    (d1 : decode cc pc = .ok (.aload_n 0, 1)) (d2 : decode cc (pc + 1) = .ok (.iload 4, 2)) (d3 : ∀ (Hp : Heap) (rs : List Value), W p l e R s m args below meth c Hp locs cells slots Q (F0 m (pc + 4) ls (.int (nI k) :: rs)) → W p l e R s m args below meth c Hp locs cells slots Q (F0 m (pc + 3) ls rs)) (d4 : decode cc (pc + 4) = .ok (.iadd, 1)) (d5 : decode cc (pc + 5) = .ok (.iaload, 1))
    (kk : W p l e R s m args below meth c H locs cells slots Q (F0 m (pc + 6) ls (.int (xs (i + k)) :: rest))) : W p l e R s m args below meth c H locs cells slots Q (F0 m pc ls rest) := by
  refine lv_aload_n hx hb d1 rfl (lv_at hl j0 h0) ?_
  refine lv_iload hx hb d2 (lv_at hl j4 h4) ?_
  refine d3 H _ ?_
  refine lv_iadd hx hb d4 ?_
  rw [nI_add]
  refine va_sld hx hb hX hbl (Nat.not_le.mpr hbl) hS (nI_in hk (by omega)) d5 ?_
  rw [nI_clamp (show i + k < 2 ^ 31 by omega)]
  exact kk
set_option maxHeartbeats 4000000 in
set_option maxRecDepth 100000 in
theorem b_furnish (hx : p.tables.exec = Jvm.exec) (hb : c.code = cL_law) (hml : c.maxLocals = 9) (hown : s.vm.findClass RL = some m.cls) (hts : ∀ w ∈ wsL_law, w.before args s = true) (hK : kK E s) (hZ : Zx E (fun q => s.heap.size ≤ q) s s.heap) (hX : va_X b L xs s s.heap) (hbl : b < s.heap.size) (hl9 : l.stackTraces = false) (hi : i + 4 < L) (hL : L ≤ 2560) (hv : VY σ) (hS : va_S (fun q => s.heap.size ≤ q) s.heap H locs) (hI : LI E s.heap.size x0 m0 qo σ σ th f H) (hl : lv_has ls 9 [(4, .int (nI i)), (3, .ref qo), (2, .ref m0), (1, .ref x0), (0, .ref b)]) (hfC : cells + 5 ≤ room_1.cells) (hfS : slots + 68 ≤ room_1.slots) (kk : ∀ (H1 : Heap) (locs1 : List Loc) (σ1 : Sg) (th1 : Int32) (f1 : Nat → Int64) (ls1 : Array Slot), VY σ1 → LI E s.heap.size x0 m0 qo σ1 σ1 th1 f1 H1 → va_S (fun q => s.heap.size ≤ q) s.heap H1 locs1 → lv_has ls1 9 [(4, .int (nI i)), (3, .ref qo), (2, .ref m0), (1, .ref x0), (0, .ref b)] → W p l e room_1 s m args below meth c H1 locs1 (cells + 5) (slots + 68) Q (F0 m 1176 ls1 [])) : W p l e room_1 s m args below meth c H locs cells slots Q (F0 m 124 ls []) := by
  obtain ⟨o, ho⟩ : ∃ o, o = oFu σ (xs (i + 1)) (xs (i + 2)) (xs (i + 3)) := ⟨_, rfl⟩
  have hY : VY o.2.2 := by rw [ho]; exact Y_furnish hv (xs (i + 1)) (xs (i + 2)) (xs (i + 3))
  refine lv_aload_n hx hb dL_law_124 rfl (lv_at hl 3 rfl) ?_
  refine l_sc hx hb hX hbl hL hS hl (j0 := 4) (j4 := 0) rfl rfl 1 (by omega) dL_law_125 dL_law_126 (fun Hp rs h => lv_iconst (v := nI 1) hx hb dL_law_128 (by decide) h) dL_law_129 dL_law_130 ?_
  refine l_sc hx hb hX hbl hL hS hl (j0 := 4) (j4 := 0) rfl rfl 2 (by omega) dL_law_131 dL_law_132 (fun Hp rs h => lv_iconst (v := nI 2) hx hb dL_law_134 (by decide) h) dL_law_135 dL_law_136 ?_
  refine l_sc hx hb hX hbl hL hS hl (j0 := 4) (j4 := 0) rfl rfl 3 (by omega) dL_law_137 dL_law_138 (fun Hp rs h => lv_iconst (v := nI 3) hx hb dL_law_140 (by decide) h) dL_law_141 dL_law_142 ?_
  refine lv_aload_n hx hb dL_law_143 rfl (lv_at hl 1 rfl) ?_
  refine l_w 5 [.int (xs (i + 1)), .int (xs (i + 2)), .int (xs (i + 3))] [] hx hb hml hown hts hK hZ (o := o) (fun A g M fo hC hq => by rw [ho]; exact W_furnish l hl9 E A g M σ hv.1 hC.1 hC.2.1 hC.2.2 hv.2 (xs (i + 1)) (xs (i + 2)) (xs (i + 3)) qo hq fo) gL_law_L_furnish rfl (by decide +kernel) rfl ⟨Nat.le_of_ble_eq_true rfl, Nat.le_of_ble_eq_true rfl⟩ hl.1 (Nat.le_of_ble_eq_true rfl) ⟨by omega, by omega⟩ rfl dL_law_144 hS hI (fun H locs f1 hI hf1 hS => ?_)
  refine W.eq (g2 := F0 m 147 ls [.int o.1]) rfl ?_
  refine lv_istore (lv' := [(5, .int o.1), (4, .int (nI i)), (3, .ref qo), (2, .ref m0), (1, .ref x0), (0, .ref b)]) hx hb dL_law_147 hl (by decide) rfl (fun ls hl => ?_)
  refine lv_aload_n hx hb dL_law_149 rfl (lv_at hl 3 rfl) ?_
  refine l_sc hx hb hX hbl hL hS hl (j0 := 5) (j4 := 1) rfl rfl 1 (by omega) dL_law_150 dL_law_151 (fun Hp rs h => lv_iconst (v := nI 1) hx hb dL_law_153 (by decide) h) dL_law_154 dL_law_155 ?_
  refine l_sc hx hb hX hbl hL hS hl (j0 := 5) (j4 := 1) rfl rfl 2 (by omega) dL_law_156 dL_law_157 (fun Hp rs h => lv_iconst (v := nI 2) hx hb dL_law_159 (by decide) h) dL_law_160 dL_law_161 ?_
  refine l_sc hx hb hX hbl hL hS hl (j0 := 5) (j4 := 1) rfl rfl 3 (by omega) dL_law_162 dL_law_163 (fun Hp rs h => lv_iconst (v := nI 3) hx hb dL_law_165 (by decide) h) dL_law_166 dL_law_167 ?_
  refine l_m 3 [.int (xs (i + 1)), .int (xs (i + 2)), .int (xs (i + 3))] [] hx hb hml hown hts hK (o := o) (fun A g M hW => by rw [ho]; exact R_furnish l E A g M σ th hv.1 hW (xs (i + 1)) (xs (i + 2)) (xs (i + 3))) gL_law_X5_furnish rfl (by decide +kernel) rfl ⟨Nat.le_of_ble_eq_true rfl, Nat.le_of_ble_eq_true rfl⟩ hl.1 (Nat.le_of_ble_eq_true rfl) ⟨by omega, by omega⟩ rfl dL_law_168 hS hI (fun H locs hI hS => ?_)
  refine W.eq (g2 := F0 m 171 ls [.int o.2.1]) rfl ?_
  refine lv_istore (lv' := [(6, .int o.2.1), (5, .int o.1), (4, .int (nI i)), (3, .ref qo), (2, .ref m0), (1, .ref x0), (0, .ref b)]) hx hb dL_law_171 hl (by decide) rfl (fun ls hl => ?_)
  refine lv_aload_n hx hb dL_law_173 rfl (lv_at hl 4 rfl) ?_
  refine l_th [] hx hb hml hown hts hK gL_law_X5_thrown ⟨Nat.le_of_ble_eq_true rfl, Nat.le_of_ble_eq_true rfl⟩ hl.1 (Nat.le_of_ble_eq_true rfl) ⟨by omega, by omega⟩ dL_law_174 hS hI ?_
  refine W.eq (g2 := F0 m 177 ls [.int o.1]) rfl ?_
  refine lv_iload hx hb dL_law_177 (lv_at hl 1 rfl) ?_
  refine lv_icmp_eq (tgt := 184) hx hb dL_law_179 (by decide) (fun _ => ?_) (fun h => absurd rfl h)
  refine lv_iload hx hb dL_law_184 (lv_at hl 1 rfl) ?_
  refine lv_if_ne (tgt := 201) hx hb dL_law_186 (by decide) (fun c1 => ?_) (fun c1 => ?_)
  · refine lv_goto (tgt := 1176) hx hb dL_law_201 (by decide) ?_
    exact kk H locs _ _ _ ls hY hI hS (lv_sub hl [2, 3, 4, 5, 6] rfl)
  · refine lv_aload_n hx hb dL_law_189 rfl (lv_at hl 3 rfl) ?_
    refine lv_iconst (v := 0) hx hb dL_law_190 (by decide) ?_
    refine o_lald hx hb hK hI.out dL_law_191 ?_
    refine lv_iload hx hb dL_law_192 (lv_at hl 0 rfl) ?_
    refine lv_i2l hx hb dL_law_194 rfl ?_
    refine lv_lcmpE hx hb (hf1 c1) dL_law_195 ?_
    refine lv_if_eq (tgt := 201) hx hb dL_law_196 (by decide) (fun _ => ?_) (fun h => absurd rfl h)
    refine lv_goto (tgt := 1176) hx hb dL_law_201 (by decide) ?_
    exact kk H locs _ _ _ ls hY hI hS (lv_sub hl [2, 3, 4, 5, 6] rfl)
set_option maxHeartbeats 4000000 in
set_option maxRecDepth 100000 in
theorem b_door (hx : p.tables.exec = Jvm.exec) (hb : c.code = cL_law) (hml : c.maxLocals = 9) (hown : s.vm.findClass RL = some m.cls) (hts : ∀ w ∈ wsL_law, w.before args s = true) (hK : kK E s) (hZ : Zx E (fun q => s.heap.size ≤ q) s s.heap) (hX : va_X b L xs s s.heap) (hbl : b < s.heap.size) (hl9 : l.stackTraces = false) (hi : i + 4 < L) (hL : L ≤ 2560) (hv : VY σ) (hS : va_S (fun q => s.heap.size ≤ q) s.heap H locs) (hI : LI E s.heap.size x0 m0 qo σ σ th f H) (hl : lv_has ls 9 [(4, .int (nI i)), (3, .ref qo), (2, .ref m0), (1, .ref x0), (0, .ref b)]) (hfC : cells + 5 ≤ room_1.cells) (hfS : slots + 68 ≤ room_1.slots) (kk : ∀ (H1 : Heap) (locs1 : List Loc) (σ1 : Sg) (th1 : Int32) (f1 : Nat → Int64) (ls1 : Array Slot), VY σ1 → LI E s.heap.size x0 m0 qo σ1 σ1 th1 f1 H1 → va_S (fun q => s.heap.size ≤ q) s.heap H1 locs1 → lv_has ls1 9 [(4, .int (nI i)), (3, .ref qo), (2, .ref m0), (1, .ref x0), (0, .ref b)] → W p l e room_1 s m args below meth c H1 locs1 (cells + 5) (slots + 68) Q (F0 m 1176 ls1 [])) : W p l e room_1 s m args below meth c H locs cells slots Q (F0 m 204 ls []) := by
  obtain ⟨o, ho⟩ : ∃ o, o = oDr σ (xs (i + 1)) (xs (i + 2)) := ⟨_, rfl⟩
  have hY : VY o.2.2 := by rw [ho]; exact Y_door hv (xs (i + 1)) (xs (i + 2))
  refine lv_aload_n hx hb dL_law_204 rfl (lv_at hl 3 rfl) ?_
  refine l_sc hx hb hX hbl hL hS hl (j0 := 4) (j4 := 0) rfl rfl 1 (by omega) dL_law_205 dL_law_206 (fun Hp rs h => lv_iconst (v := nI 1) hx hb dL_law_208 (by decide) h) dL_law_209 dL_law_210 ?_
  refine l_sc hx hb hX hbl hL hS hl (j0 := 4) (j4 := 0) rfl rfl 2 (by omega) dL_law_211 dL_law_212 (fun Hp rs h => lv_iconst (v := nI 2) hx hb dL_law_214 (by decide) h) dL_law_215 dL_law_216 ?_
  refine lv_aload_n hx hb dL_law_217 rfl (lv_at hl 1 rfl) ?_
  refine l_w 4 [.int (xs (i + 1)), .int (xs (i + 2))] [] hx hb hml hown hts hK hZ (o := o) (fun A g M fo hC hq => by rw [ho]; exact W_door l hl9 E A g M σ hv.1 hC.1 hC.2.1 hC.2.2 hv.2 (xs (i + 1)) (xs (i + 2)) qo hq fo) gL_law_L_door rfl (by decide +kernel) rfl ⟨Nat.le_of_ble_eq_true rfl, Nat.le_of_ble_eq_true rfl⟩ hl.1 (Nat.le_of_ble_eq_true rfl) ⟨by omega, by omega⟩ rfl dL_law_218 hS hI (fun H locs f1 hI hf1 hS => ?_)
  refine W.eq (g2 := F0 m 221 ls [.int o.1]) rfl ?_
  refine lv_istore (lv' := [(5, .int o.1), (4, .int (nI i)), (3, .ref qo), (2, .ref m0), (1, .ref x0), (0, .ref b)]) hx hb dL_law_221 hl (by decide) rfl (fun ls hl => ?_)
  refine lv_aload_n hx hb dL_law_223 rfl (lv_at hl 3 rfl) ?_
  refine l_sc hx hb hX hbl hL hS hl (j0 := 5) (j4 := 1) rfl rfl 1 (by omega) dL_law_224 dL_law_225 (fun Hp rs h => lv_iconst (v := nI 1) hx hb dL_law_227 (by decide) h) dL_law_228 dL_law_229 ?_
  refine l_sc hx hb hX hbl hL hS hl (j0 := 5) (j4 := 1) rfl rfl 2 (by omega) dL_law_230 dL_law_231 (fun Hp rs h => lv_iconst (v := nI 2) hx hb dL_law_233 (by decide) h) dL_law_234 dL_law_235 ?_
  refine l_m 2 [.int (xs (i + 1)), .int (xs (i + 2))] [] hx hb hml hown hts hK (o := o) (fun A g M hW => by rw [ho]; exact R_door l E A g M σ th hv.1 hW (xs (i + 1)) (xs (i + 2))) gL_law_X5_door rfl (by decide +kernel) rfl ⟨Nat.le_of_ble_eq_true rfl, Nat.le_of_ble_eq_true rfl⟩ hl.1 (Nat.le_of_ble_eq_true rfl) ⟨by omega, by omega⟩ rfl dL_law_236 hS hI (fun H locs hI hS => ?_)
  refine W.eq (g2 := F0 m 239 ls [.int o.2.1]) rfl ?_
  refine lv_istore (lv' := [(6, .int o.2.1), (5, .int o.1), (4, .int (nI i)), (3, .ref qo), (2, .ref m0), (1, .ref x0), (0, .ref b)]) hx hb dL_law_239 hl (by decide) rfl (fun ls hl => ?_)
  refine lv_aload_n hx hb dL_law_241 rfl (lv_at hl 4 rfl) ?_
  refine l_th [] hx hb hml hown hts hK gL_law_X5_thrown ⟨Nat.le_of_ble_eq_true rfl, Nat.le_of_ble_eq_true rfl⟩ hl.1 (Nat.le_of_ble_eq_true rfl) ⟨by omega, by omega⟩ dL_law_242 hS hI ?_
  refine W.eq (g2 := F0 m 245 ls [.int o.1]) rfl ?_
  refine lv_iload hx hb dL_law_245 (lv_at hl 1 rfl) ?_
  refine lv_icmp_eq (tgt := 252) hx hb dL_law_247 (by decide) (fun _ => ?_) (fun h => absurd rfl h)
  refine lv_iload hx hb dL_law_252 (lv_at hl 1 rfl) ?_
  refine lv_if_ne (tgt := 269) hx hb dL_law_254 (by decide) (fun c1 => ?_) (fun c1 => ?_)
  · refine lv_goto (tgt := 1176) hx hb dL_law_269 (by decide) ?_
    exact kk H locs _ _ _ ls hY hI hS (lv_sub hl [2, 3, 4, 5, 6] rfl)
  · refine lv_aload_n hx hb dL_law_257 rfl (lv_at hl 3 rfl) ?_
    refine lv_iconst (v := 0) hx hb dL_law_258 (by decide) ?_
    refine o_lald hx hb hK hI.out dL_law_259 ?_
    refine lv_iload hx hb dL_law_260 (lv_at hl 0 rfl) ?_
    refine lv_i2l hx hb dL_law_262 rfl ?_
    refine lv_lcmpE hx hb (hf1 c1) dL_law_263 ?_
    refine lv_if_eq (tgt := 269) hx hb dL_law_264 (by decide) (fun _ => ?_) (fun h => absurd rfl h)
    refine lv_goto (tgt := 1176) hx hb dL_law_269 (by decide) ?_
    exact kk H locs _ _ _ ls hY hI hS (lv_sub hl [2, 3, 4, 5, 6] rfl)
set_option maxHeartbeats 4000000 in
set_option maxRecDepth 100000 in
theorem b_haunt (hx : p.tables.exec = Jvm.exec) (hb : c.code = cL_law) (hml : c.maxLocals = 9) (hown : s.vm.findClass RL = some m.cls) (hts : ∀ w ∈ wsL_law, w.before args s = true) (hK : kK E s) (hZ : Zx E (fun q => s.heap.size ≤ q) s s.heap) (hX : va_X b L xs s s.heap) (hbl : b < s.heap.size) (hl9 : l.stackTraces = false) (hi : i + 4 < L) (hL : L ≤ 2560) (hv : VY σ) (hS : va_S (fun q => s.heap.size ≤ q) s.heap H locs) (hI : LI E s.heap.size x0 m0 qo σ σ th f H) (hl : lv_has ls 9 [(4, .int (nI i)), (3, .ref qo), (2, .ref m0), (1, .ref x0), (0, .ref b)]) (hfC : cells + 5 ≤ room_1.cells) (hfS : slots + 68 ≤ room_1.slots) (kk : ∀ (H1 : Heap) (locs1 : List Loc) (σ1 : Sg) (th1 : Int32) (f1 : Nat → Int64) (ls1 : Array Slot), VY σ1 → LI E s.heap.size x0 m0 qo σ1 σ1 th1 f1 H1 → va_S (fun q => s.heap.size ≤ q) s.heap H1 locs1 → lv_has ls1 9 [(4, .int (nI i)), (3, .ref qo), (2, .ref m0), (1, .ref x0), (0, .ref b)] → W p l e room_1 s m args below meth c H1 locs1 (cells + 5) (slots + 68) Q (F0 m 1176 ls1 [])) : W p l e room_1 s m args below meth c H locs cells slots Q (F0 m 272 ls []) := by
  obtain ⟨o, ho⟩ : ∃ o, o = oHa σ (xs (i + 1)) (xs (i + 2)) (xs (i + 3)) (xs (i + 4)) := ⟨_, rfl⟩
  have hY : VY o.2.2 := by rw [ho]; exact Y_haunt hv (xs (i + 1)) (xs (i + 2)) (xs (i + 3)) (xs (i + 4))
  refine lv_aload_n hx hb dL_law_272 rfl (lv_at hl 3 rfl) ?_
  refine l_sc hx hb hX hbl hL hS hl (j0 := 4) (j4 := 0) rfl rfl 1 (by omega) dL_law_273 dL_law_274 (fun Hp rs h => lv_iconst (v := nI 1) hx hb dL_law_276 (by decide) h) dL_law_277 dL_law_278 ?_
  refine l_sc hx hb hX hbl hL hS hl (j0 := 4) (j4 := 0) rfl rfl 2 (by omega) dL_law_279 dL_law_280 (fun Hp rs h => lv_iconst (v := nI 2) hx hb dL_law_282 (by decide) h) dL_law_283 dL_law_284 ?_
  refine l_sc hx hb hX hbl hL hS hl (j0 := 4) (j4 := 0) rfl rfl 3 (by omega) dL_law_285 dL_law_286 (fun Hp rs h => lv_iconst (v := nI 3) hx hb dL_law_288 (by decide) h) dL_law_289 dL_law_290 ?_
  refine l_sc hx hb hX hbl hL hS hl (j0 := 4) (j4 := 0) rfl rfl 4 (by omega) dL_law_291 dL_law_292 (fun Hp rs h => lv_iconst (v := nI 4) hx hb dL_law_294 (by decide) h) dL_law_295 dL_law_296 ?_
  refine lv_aload_n hx hb dL_law_297 rfl (lv_at hl 1 rfl) ?_
  refine l_w 6 [.int (xs (i + 1)), .int (xs (i + 2)), .int (xs (i + 3)), .int (xs (i + 4))] [] hx hb hml hown hts hK hZ (o := o) (fun A g M fo hC hq => by rw [ho]; exact W_haunt l hl9 E A g M σ hv.1 hC.1 hC.2.1 hC.2.2 hv.2 (xs (i + 1)) (xs (i + 2)) (xs (i + 3)) (xs (i + 4)) qo hq fo) gL_law_L_haunt rfl (by decide +kernel) rfl ⟨Nat.le_of_ble_eq_true rfl, Nat.le_of_ble_eq_true rfl⟩ hl.1 (Nat.le_of_ble_eq_true rfl) ⟨by omega, by omega⟩ rfl dL_law_298 hS hI (fun H locs f1 hI hf1 hS => ?_)
  refine W.eq (g2 := F0 m 301 ls [.int o.1]) rfl ?_
  refine lv_istore (lv' := [(5, .int o.1), (4, .int (nI i)), (3, .ref qo), (2, .ref m0), (1, .ref x0), (0, .ref b)]) hx hb dL_law_301 hl (by decide) rfl (fun ls hl => ?_)
  refine lv_aload_n hx hb dL_law_303 rfl (lv_at hl 3 rfl) ?_
  refine l_sc hx hb hX hbl hL hS hl (j0 := 5) (j4 := 1) rfl rfl 1 (by omega) dL_law_304 dL_law_305 (fun Hp rs h => lv_iconst (v := nI 1) hx hb dL_law_307 (by decide) h) dL_law_308 dL_law_309 ?_
  refine l_sc hx hb hX hbl hL hS hl (j0 := 5) (j4 := 1) rfl rfl 2 (by omega) dL_law_310 dL_law_311 (fun Hp rs h => lv_iconst (v := nI 2) hx hb dL_law_313 (by decide) h) dL_law_314 dL_law_315 ?_
  refine l_sc hx hb hX hbl hL hS hl (j0 := 5) (j4 := 1) rfl rfl 3 (by omega) dL_law_316 dL_law_317 (fun Hp rs h => lv_iconst (v := nI 3) hx hb dL_law_319 (by decide) h) dL_law_320 dL_law_321 ?_
  refine l_sc hx hb hX hbl hL hS hl (j0 := 5) (j4 := 1) rfl rfl 4 (by omega) dL_law_322 dL_law_323 (fun Hp rs h => lv_iconst (v := nI 4) hx hb dL_law_325 (by decide) h) dL_law_326 dL_law_327 ?_
  refine l_m 4 [.int (xs (i + 1)), .int (xs (i + 2)), .int (xs (i + 3)), .int (xs (i + 4))] [] hx hb hml hown hts hK (o := o) (fun A g M hW => by rw [ho]; exact R_haunt l E A g M σ th hv.1 hW (xs (i + 1)) (xs (i + 2)) (xs (i + 3)) (xs (i + 4))) gL_law_X5_haunt rfl (by decide +kernel) rfl ⟨Nat.le_of_ble_eq_true rfl, Nat.le_of_ble_eq_true rfl⟩ hl.1 (Nat.le_of_ble_eq_true rfl) ⟨by omega, by omega⟩ rfl dL_law_328 hS hI (fun H locs hI hS => ?_)
  refine W.eq (g2 := F0 m 331 ls [.int o.2.1]) rfl ?_
  refine lv_istore (lv' := [(6, .int o.2.1), (5, .int o.1), (4, .int (nI i)), (3, .ref qo), (2, .ref m0), (1, .ref x0), (0, .ref b)]) hx hb dL_law_331 hl (by decide) rfl (fun ls hl => ?_)
  refine lv_aload_n hx hb dL_law_333 rfl (lv_at hl 4 rfl) ?_
  refine l_th [] hx hb hml hown hts hK gL_law_X5_thrown ⟨Nat.le_of_ble_eq_true rfl, Nat.le_of_ble_eq_true rfl⟩ hl.1 (Nat.le_of_ble_eq_true rfl) ⟨by omega, by omega⟩ dL_law_334 hS hI ?_
  refine W.eq (g2 := F0 m 337 ls [.int o.1]) rfl ?_
  refine lv_iload hx hb dL_law_337 (lv_at hl 1 rfl) ?_
  refine lv_icmp_eq (tgt := 344) hx hb dL_law_339 (by decide) (fun _ => ?_) (fun h => absurd rfl h)
  refine lv_iload hx hb dL_law_344 (lv_at hl 1 rfl) ?_
  refine lv_if_ne (tgt := 361) hx hb dL_law_346 (by decide) (fun c1 => ?_) (fun c1 => ?_)
  · refine lv_goto (tgt := 1176) hx hb dL_law_361 (by decide) ?_
    exact kk H locs _ _ _ ls hY hI hS (lv_sub hl [2, 3, 4, 5, 6] rfl)
  · refine lv_aload_n hx hb dL_law_349 rfl (lv_at hl 3 rfl) ?_
    refine lv_iconst (v := 0) hx hb dL_law_350 (by decide) ?_
    refine o_lald hx hb hK hI.out dL_law_351 ?_
    refine lv_iload hx hb dL_law_352 (lv_at hl 0 rfl) ?_
    refine lv_i2l hx hb dL_law_354 rfl ?_
    refine lv_lcmpE hx hb (hf1 c1) dL_law_355 ?_
    refine lv_if_eq (tgt := 361) hx hb dL_law_356 (by decide) (fun _ => ?_) (fun h => absurd rfl h)
    refine lv_goto (tgt := 1176) hx hb dL_law_361 (by decide) ?_
    exact kk H locs _ _ _ ls hY hI hS (lv_sub hl [2, 3, 4, 5, 6] rfl)
set_option maxHeartbeats 4000000 in
set_option maxRecDepth 100000 in
theorem b_at (hx : p.tables.exec = Jvm.exec) (hb : c.code = cL_law) (hml : c.maxLocals = 9) (hown : s.vm.findClass RL = some m.cls) (hts : ∀ w ∈ wsL_law, w.before args s = true) (hK : kK E s) (hZ : Zx E (fun q => s.heap.size ≤ q) s s.heap) (hX : va_X b L xs s s.heap) (hbl : b < s.heap.size) (hl9 : l.stackTraces = false) (hi : i + 4 < L) (hL : L ≤ 2560) (hv : VY σ) (hS : va_S (fun q => s.heap.size ≤ q) s.heap H locs) (hI : LI E s.heap.size x0 m0 qo σ σ th f H) (hl : lv_has ls 9 [(4, .int (nI i)), (3, .ref qo), (2, .ref m0), (1, .ref x0), (0, .ref b)]) (hfC : cells + 5 ≤ room_1.cells) (hfS : slots + 68 ≤ room_1.slots) (kk : ∀ (H1 : Heap) (locs1 : List Loc) (σ1 : Sg) (th1 : Int32) (f1 : Nat → Int64) (ls1 : Array Slot), VY σ1 → LI E s.heap.size x0 m0 qo σ1 σ1 th1 f1 H1 → va_S (fun q => s.heap.size ≤ q) s.heap H1 locs1 → lv_has ls1 9 [(4, .int (nI i)), (3, .ref qo), (2, .ref m0), (1, .ref x0), (0, .ref b)] → W p l e room_1 s m args below meth c H1 locs1 (cells + 5) (slots + 68) Q (F0 m 1176 ls1 [])) : W p l e room_1 s m args below meth c H locs cells slots Q (F0 m 364 ls []) := by
  obtain ⟨o, ho⟩ : ∃ o, o = oAt σ (xs (i + 1)) (xs (i + 2)) := ⟨_, rfl⟩
  have hY : VY o.2.2 := by rw [ho]; exact Y_at hv (xs (i + 1)) (xs (i + 2))
  refine lv_aload_n hx hb dL_law_364 rfl (lv_at hl 3 rfl) ?_
  refine l_sc hx hb hX hbl hL hS hl (j0 := 4) (j4 := 0) rfl rfl 1 (by omega) dL_law_365 dL_law_366 (fun Hp rs h => lv_iconst (v := nI 1) hx hb dL_law_368 (by decide) h) dL_law_369 dL_law_370 ?_
  refine l_sc hx hb hX hbl hL hS hl (j0 := 4) (j4 := 0) rfl rfl 2 (by omega) dL_law_371 dL_law_372 (fun Hp rs h => lv_iconst (v := nI 2) hx hb dL_law_374 (by decide) h) dL_law_375 dL_law_376 ?_
  refine lv_aload_n hx hb dL_law_377 rfl (lv_at hl 1 rfl) ?_
  refine l_w 4 [.int (xs (i + 1)), .int (xs (i + 2))] [] hx hb hml hown hts hK hZ (o := o) (fun A g M fo hC hq => by rw [ho]; exact W_at l hl9 E A g M σ hv.1 hC.1 hC.2.1 hC.2.2 hv.2 (xs (i + 1)) (xs (i + 2)) qo hq fo) gL_law_L_at rfl (by decide +kernel) rfl ⟨Nat.le_of_ble_eq_true rfl, Nat.le_of_ble_eq_true rfl⟩ hl.1 (Nat.le_of_ble_eq_true rfl) ⟨by omega, by omega⟩ rfl dL_law_378 hS hI (fun H locs f1 hI hf1 hS => ?_)
  refine W.eq (g2 := F0 m 381 ls [.int o.1]) rfl ?_
  refine lv_istore (lv' := [(5, .int o.1), (4, .int (nI i)), (3, .ref qo), (2, .ref m0), (1, .ref x0), (0, .ref b)]) hx hb dL_law_381 hl (by decide) rfl (fun ls hl => ?_)
  refine lv_aload_n hx hb dL_law_383 rfl (lv_at hl 3 rfl) ?_
  refine l_sc hx hb hX hbl hL hS hl (j0 := 5) (j4 := 1) rfl rfl 1 (by omega) dL_law_384 dL_law_385 (fun Hp rs h => lv_iconst (v := nI 1) hx hb dL_law_387 (by decide) h) dL_law_388 dL_law_389 ?_
  refine l_sc hx hb hX hbl hL hS hl (j0 := 5) (j4 := 1) rfl rfl 2 (by omega) dL_law_390 dL_law_391 (fun Hp rs h => lv_iconst (v := nI 2) hx hb dL_law_393 (by decide) h) dL_law_394 dL_law_395 ?_
  refine l_m 2 [.int (xs (i + 1)), .int (xs (i + 2))] [] hx hb hml hown hts hK (o := o) (fun A g M hW => by rw [ho]; exact R_at l E A g M σ th hv.1 hW (xs (i + 1)) (xs (i + 2))) gL_law_X5_at rfl (by decide +kernel) rfl ⟨Nat.le_of_ble_eq_true rfl, Nat.le_of_ble_eq_true rfl⟩ hl.1 (Nat.le_of_ble_eq_true rfl) ⟨by omega, by omega⟩ rfl dL_law_396 hS hI (fun H locs hI hS => ?_)
  refine W.eq (g2 := F0 m 399 ls [.int o.2.1]) rfl ?_
  refine lv_istore (lv' := [(6, .int o.2.1), (5, .int o.1), (4, .int (nI i)), (3, .ref qo), (2, .ref m0), (1, .ref x0), (0, .ref b)]) hx hb dL_law_399 hl (by decide) rfl (fun ls hl => ?_)
  refine lv_aload_n hx hb dL_law_401 rfl (lv_at hl 4 rfl) ?_
  refine l_th [] hx hb hml hown hts hK gL_law_X5_thrown ⟨Nat.le_of_ble_eq_true rfl, Nat.le_of_ble_eq_true rfl⟩ hl.1 (Nat.le_of_ble_eq_true rfl) ⟨by omega, by omega⟩ dL_law_402 hS hI ?_
  refine W.eq (g2 := F0 m 405 ls [.int o.1]) rfl ?_
  refine lv_iload hx hb dL_law_405 (lv_at hl 1 rfl) ?_
  refine lv_icmp_eq (tgt := 412) hx hb dL_law_407 (by decide) (fun _ => ?_) (fun h => absurd rfl h)
  refine lv_iload hx hb dL_law_412 (lv_at hl 1 rfl) ?_
  refine lv_if_ne (tgt := 429) hx hb dL_law_414 (by decide) (fun c1 => ?_) (fun c1 => ?_)
  · refine lv_goto (tgt := 1176) hx hb dL_law_429 (by decide) ?_
    exact kk H locs _ _ _ ls hY hI hS (lv_sub hl [2, 3, 4, 5, 6] rfl)
  · refine lv_aload_n hx hb dL_law_417 rfl (lv_at hl 3 rfl) ?_
    refine lv_iconst (v := 0) hx hb dL_law_418 (by decide) ?_
    refine o_lald hx hb hK hI.out dL_law_419 ?_
    refine lv_iload hx hb dL_law_420 (lv_at hl 0 rfl) ?_
    refine lv_i2l hx hb dL_law_422 rfl ?_
    refine lv_lcmpE hx hb (hf1 c1) dL_law_423 ?_
    refine lv_if_eq (tgt := 429) hx hb dL_law_424 (by decide) (fun _ => ?_) (fun h => absurd rfl h)
    refine lv_goto (tgt := 1176) hx hb dL_law_429 (by decide) ?_
    exact kk H locs _ _ _ ls hY hI hS (lv_sub hl [2, 3, 4, 5, 6] rfl)
set_option maxHeartbeats 4000000 in
set_option maxRecDepth 100000 in
theorem b_haunting (hx : p.tables.exec = Jvm.exec) (hb : c.code = cL_law) (hml : c.maxLocals = 9) (hown : s.vm.findClass RL = some m.cls) (hts : ∀ w ∈ wsL_law, w.before args s = true) (hK : kK E s) (hZ : Zx E (fun q => s.heap.size ≤ q) s s.heap) (hX : va_X b L xs s s.heap) (hbl : b < s.heap.size) (hl9 : l.stackTraces = false) (hi : i + 4 < L) (hL : L ≤ 2560) (hv : VY σ) (hS : va_S (fun q => s.heap.size ≤ q) s.heap H locs) (hI : LI E s.heap.size x0 m0 qo σ σ th f H) (hl : lv_has ls 9 [(4, .int (nI i)), (3, .ref qo), (2, .ref m0), (1, .ref x0), (0, .ref b)]) (hfC : cells + 5 ≤ room_1.cells) (hfS : slots + 68 ≤ room_1.slots) (kk : ∀ (H1 : Heap) (locs1 : List Loc) (σ1 : Sg) (th1 : Int32) (f1 : Nat → Int64) (ls1 : Array Slot), VY σ1 → LI E s.heap.size x0 m0 qo σ1 σ1 th1 f1 H1 → va_S (fun q => s.heap.size ≤ q) s.heap H1 locs1 → lv_has ls1 9 [(4, .int (nI i)), (3, .ref qo), (2, .ref m0), (1, .ref x0), (0, .ref b)] → W p l e room_1 s m args below meth c H1 locs1 (cells + 5) (slots + 68) Q (F0 m 1176 ls1 [])) : W p l e room_1 s m args below meth c H locs cells slots Q (F0 m 432 ls []) := by
  obtain ⟨o, ho⟩ : ∃ o, o = oHg σ (xs (i + 1)) (xs (i + 2)) := ⟨_, rfl⟩
  have hY : VY o.2.2 := by rw [ho]; exact Y_haunting hv (xs (i + 1)) (xs (i + 2))
  refine lv_aload_n hx hb dL_law_432 rfl (lv_at hl 3 rfl) ?_
  refine l_sc hx hb hX hbl hL hS hl (j0 := 4) (j4 := 0) rfl rfl 1 (by omega) dL_law_433 dL_law_434 (fun Hp rs h => lv_iconst (v := nI 1) hx hb dL_law_436 (by decide) h) dL_law_437 dL_law_438 ?_
  refine l_sc hx hb hX hbl hL hS hl (j0 := 4) (j4 := 0) rfl rfl 2 (by omega) dL_law_439 dL_law_440 (fun Hp rs h => lv_iconst (v := nI 2) hx hb dL_law_442 (by decide) h) dL_law_443 dL_law_444 ?_
  refine lv_aload_n hx hb dL_law_445 rfl (lv_at hl 1 rfl) ?_
  refine l_w 4 [.int (xs (i + 1)), .int (xs (i + 2))] [] hx hb hml hown hts hK hZ (o := o) (fun A g M fo hC hq => by rw [ho]; exact W_haunting l hl9 E A g M σ hv.1 hC.1 hC.2.1 hC.2.2 hv.2 (xs (i + 1)) (xs (i + 2)) qo hq fo) gL_law_L_haunting rfl (by decide +kernel) rfl ⟨Nat.le_of_ble_eq_true rfl, Nat.le_of_ble_eq_true rfl⟩ hl.1 (Nat.le_of_ble_eq_true rfl) ⟨by omega, by omega⟩ rfl dL_law_446 hS hI (fun H locs f1 hI hf1 hS => ?_)
  refine W.eq (g2 := F0 m 449 ls [.int o.1]) rfl ?_
  refine lv_istore (lv' := [(5, .int o.1), (4, .int (nI i)), (3, .ref qo), (2, .ref m0), (1, .ref x0), (0, .ref b)]) hx hb dL_law_449 hl (by decide) rfl (fun ls hl => ?_)
  refine lv_aload_n hx hb dL_law_451 rfl (lv_at hl 3 rfl) ?_
  refine l_sc hx hb hX hbl hL hS hl (j0 := 5) (j4 := 1) rfl rfl 1 (by omega) dL_law_452 dL_law_453 (fun Hp rs h => lv_iconst (v := nI 1) hx hb dL_law_455 (by decide) h) dL_law_456 dL_law_457 ?_
  refine l_sc hx hb hX hbl hL hS hl (j0 := 5) (j4 := 1) rfl rfl 2 (by omega) dL_law_458 dL_law_459 (fun Hp rs h => lv_iconst (v := nI 2) hx hb dL_law_461 (by decide) h) dL_law_462 dL_law_463 ?_
  refine l_m 2 [.int (xs (i + 1)), .int (xs (i + 2))] [] hx hb hml hown hts hK (o := o) (fun A g M hW => by rw [ho]; exact R_haunting l E A g M σ th hv.1 hW (xs (i + 1)) (xs (i + 2))) gL_law_X5_haunting rfl (by decide +kernel) rfl ⟨Nat.le_of_ble_eq_true rfl, Nat.le_of_ble_eq_true rfl⟩ hl.1 (Nat.le_of_ble_eq_true rfl) ⟨by omega, by omega⟩ rfl dL_law_464 hS hI (fun H locs hI hS => ?_)
  refine W.eq (g2 := F0 m 467 ls [.int o.2.1]) rfl ?_
  refine lv_istore (lv' := [(6, .int o.2.1), (5, .int o.1), (4, .int (nI i)), (3, .ref qo), (2, .ref m0), (1, .ref x0), (0, .ref b)]) hx hb dL_law_467 hl (by decide) rfl (fun ls hl => ?_)
  refine lv_aload_n hx hb dL_law_469 rfl (lv_at hl 4 rfl) ?_
  refine l_th [] hx hb hml hown hts hK gL_law_X5_thrown ⟨Nat.le_of_ble_eq_true rfl, Nat.le_of_ble_eq_true rfl⟩ hl.1 (Nat.le_of_ble_eq_true rfl) ⟨by omega, by omega⟩ dL_law_470 hS hI ?_
  refine W.eq (g2 := F0 m 473 ls [.int o.1]) rfl ?_
  refine lv_iload hx hb dL_law_473 (lv_at hl 1 rfl) ?_
  refine lv_icmp_eq (tgt := 480) hx hb dL_law_475 (by decide) (fun _ => ?_) (fun h => absurd rfl h)
  refine lv_iload hx hb dL_law_480 (lv_at hl 1 rfl) ?_
  refine lv_if_ne (tgt := 497) hx hb dL_law_482 (by decide) (fun c1 => ?_) (fun c1 => ?_)
  · refine lv_goto (tgt := 1176) hx hb dL_law_497 (by decide) ?_
    exact kk H locs _ _ _ ls hY hI hS (lv_sub hl [2, 3, 4, 5, 6] rfl)
  · refine lv_aload_n hx hb dL_law_485 rfl (lv_at hl 3 rfl) ?_
    refine lv_iconst (v := 0) hx hb dL_law_486 (by decide) ?_
    refine o_lald hx hb hK hI.out dL_law_487 ?_
    refine lv_iload hx hb dL_law_488 (lv_at hl 0 rfl) ?_
    refine lv_i2l hx hb dL_law_490 rfl ?_
    refine lv_lcmpE hx hb (hf1 c1) dL_law_491 ?_
    refine lv_if_eq (tgt := 497) hx hb dL_law_492 (by decide) (fun _ => ?_) (fun h => absurd rfl h)
    refine lv_goto (tgt := 1176) hx hb dL_law_497 (by decide) ?_
    exact kk H locs _ _ _ ls hY hI hS (lv_sub hl [2, 3, 4, 5, 6] rfl)
set_option maxHeartbeats 4000000 in
set_option maxRecDepth 100000 in
theorem b_room (hx : p.tables.exec = Jvm.exec) (hb : c.code = cL_law) (hml : c.maxLocals = 9) (hown : s.vm.findClass RL = some m.cls) (hts : ∀ w ∈ wsL_law, w.before args s = true) (hK : kK E s) (hZ : Zx E (fun q => s.heap.size ≤ q) s s.heap) (hX : va_X b L xs s s.heap) (hbl : b < s.heap.size) (hl9 : l.stackTraces = false) (hi : i + 4 < L) (hL : L ≤ 2560) (hv : VY σ) (hS : va_S (fun q => s.heap.size ≤ q) s.heap H locs) (hI : LI E s.heap.size x0 m0 qo σ σ th f H) (hl : lv_has ls 9 [(4, .int (nI i)), (3, .ref qo), (2, .ref m0), (1, .ref x0), (0, .ref b)]) (hfC : cells + 5 ≤ room_1.cells) (hfS : slots + 68 ≤ room_1.slots) (kk : ∀ (H1 : Heap) (locs1 : List Loc) (σ1 : Sg) (th1 : Int32) (f1 : Nat → Int64) (ls1 : Array Slot), VY σ1 → LI E s.heap.size x0 m0 qo σ1 σ1 th1 f1 H1 → va_S (fun q => s.heap.size ≤ q) s.heap H1 locs1 → lv_has ls1 9 [(4, .int (nI i)), (3, .ref qo), (2, .ref m0), (1, .ref x0), (0, .ref b)] → W p l e room_1 s m args below meth c H1 locs1 (cells + 5) (slots + 68) Q (F0 m 1176 ls1 [])) : W p l e room_1 s m args below meth c H locs cells slots Q (F0 m 500 ls []) := by
  obtain ⟨o, ho⟩ : ∃ o, o = oRm σ (xs (i + 1)) (xs (i + 2)) := ⟨_, rfl⟩
  have hY : VY o.2.2 := by rw [ho]; exact Y_room hv (xs (i + 1)) (xs (i + 2))
  refine lv_aload_n hx hb dL_law_500 rfl (lv_at hl 3 rfl) ?_
  refine l_sc hx hb hX hbl hL hS hl (j0 := 4) (j4 := 0) rfl rfl 1 (by omega) dL_law_501 dL_law_502 (fun Hp rs h => lv_iconst (v := nI 1) hx hb dL_law_504 (by decide) h) dL_law_505 dL_law_506 ?_
  refine l_sc hx hb hX hbl hL hS hl (j0 := 4) (j4 := 0) rfl rfl 2 (by omega) dL_law_507 dL_law_508 (fun Hp rs h => lv_iconst (v := nI 2) hx hb dL_law_510 (by decide) h) dL_law_511 dL_law_512 ?_
  refine lv_aload_n hx hb dL_law_513 rfl (lv_at hl 1 rfl) ?_
  refine l_w 4 [.int (xs (i + 1)), .int (xs (i + 2))] [] hx hb hml hown hts hK hZ (o := o) (fun A g M fo hC hq => by rw [ho]; exact W_room l hl9 E A g M σ hv.1 hC.1 hC.2.1 hC.2.2 hv.2 (xs (i + 1)) (xs (i + 2)) qo hq fo) gL_law_L_room rfl (by decide +kernel) rfl ⟨Nat.le_of_ble_eq_true rfl, Nat.le_of_ble_eq_true rfl⟩ hl.1 (Nat.le_of_ble_eq_true rfl) ⟨by omega, by omega⟩ rfl dL_law_514 hS hI (fun H locs f1 hI hf1 hS => ?_)
  refine W.eq (g2 := F0 m 517 ls [.int o.1]) rfl ?_
  refine lv_istore (lv' := [(5, .int o.1), (4, .int (nI i)), (3, .ref qo), (2, .ref m0), (1, .ref x0), (0, .ref b)]) hx hb dL_law_517 hl (by decide) rfl (fun ls hl => ?_)
  refine lv_aload_n hx hb dL_law_519 rfl (lv_at hl 3 rfl) ?_
  refine l_sc hx hb hX hbl hL hS hl (j0 := 5) (j4 := 1) rfl rfl 1 (by omega) dL_law_520 dL_law_521 (fun Hp rs h => lv_iconst (v := nI 1) hx hb dL_law_523 (by decide) h) dL_law_524 dL_law_525 ?_
  refine l_sc hx hb hX hbl hL hS hl (j0 := 5) (j4 := 1) rfl rfl 2 (by omega) dL_law_526 dL_law_527 (fun Hp rs h => lv_iconst (v := nI 2) hx hb dL_law_529 (by decide) h) dL_law_530 dL_law_531 ?_
  refine l_m 2 [.int (xs (i + 1)), .int (xs (i + 2))] [] hx hb hml hown hts hK (o := o) (fun A g M hW => by rw [ho]; exact R_room l E A g M σ th hv.1 hW (xs (i + 1)) (xs (i + 2))) gL_law_X5_room rfl (by decide +kernel) rfl ⟨Nat.le_of_ble_eq_true rfl, Nat.le_of_ble_eq_true rfl⟩ hl.1 (Nat.le_of_ble_eq_true rfl) ⟨by omega, by omega⟩ rfl dL_law_532 hS hI (fun H locs hI hS => ?_)
  refine W.eq (g2 := F0 m 535 ls [.int o.2.1]) rfl ?_
  refine lv_istore (lv' := [(6, .int o.2.1), (5, .int o.1), (4, .int (nI i)), (3, .ref qo), (2, .ref m0), (1, .ref x0), (0, .ref b)]) hx hb dL_law_535 hl (by decide) rfl (fun ls hl => ?_)
  refine lv_aload_n hx hb dL_law_537 rfl (lv_at hl 4 rfl) ?_
  refine l_th [] hx hb hml hown hts hK gL_law_X5_thrown ⟨Nat.le_of_ble_eq_true rfl, Nat.le_of_ble_eq_true rfl⟩ hl.1 (Nat.le_of_ble_eq_true rfl) ⟨by omega, by omega⟩ dL_law_538 hS hI ?_
  refine W.eq (g2 := F0 m 541 ls [.int o.1]) rfl ?_
  refine lv_iload hx hb dL_law_541 (lv_at hl 1 rfl) ?_
  refine lv_icmp_eq (tgt := 548) hx hb dL_law_543 (by decide) (fun _ => ?_) (fun h => absurd rfl h)
  refine lv_iload hx hb dL_law_548 (lv_at hl 1 rfl) ?_
  refine lv_if_ne (tgt := 565) hx hb dL_law_550 (by decide) (fun c1 => ?_) (fun c1 => ?_)
  · refine lv_goto (tgt := 1176) hx hb dL_law_565 (by decide) ?_
    exact kk H locs _ _ _ ls hY hI hS (lv_sub hl [2, 3, 4, 5, 6] rfl)
  · refine lv_aload_n hx hb dL_law_553 rfl (lv_at hl 3 rfl) ?_
    refine lv_iconst (v := 0) hx hb dL_law_554 (by decide) ?_
    refine o_lald hx hb hK hI.out dL_law_555 ?_
    refine lv_iload hx hb dL_law_556 (lv_at hl 0 rfl) ?_
    refine lv_i2l hx hb dL_law_558 rfl ?_
    refine lv_lcmpE hx hb (hf1 c1) dL_law_559 ?_
    refine lv_if_eq (tgt := 565) hx hb dL_law_560 (by decide) (fun _ => ?_) (fun h => absurd rfl h)
    refine lv_goto (tgt := 1176) hx hb dL_law_565 (by decide) ?_
    exact kk H locs _ _ _ ls hY hI hS (lv_sub hl [2, 3, 4, 5, 6] rfl)
set_option maxHeartbeats 4000000 in
set_option maxRecDepth 100000 in
theorem b_come (hx : p.tables.exec = Jvm.exec) (hb : c.code = cL_law) (hml : c.maxLocals = 9) (hown : s.vm.findClass RL = some m.cls) (hts : ∀ w ∈ wsL_law, w.before args s = true) (hK : kK E s) (hZ : Zx E (fun q => s.heap.size ≤ q) s s.heap) (hX : va_X b L xs s s.heap) (hbl : b < s.heap.size) (hl9 : l.stackTraces = false) (hi : i + 4 < L) (hL : L ≤ 2560) (hv : VY σ) (hS : va_S (fun q => s.heap.size ≤ q) s.heap H locs) (hI : LI E s.heap.size x0 m0 qo σ σ th f H) (hl : lv_has ls 9 [(4, .int (nI i)), (3, .ref qo), (2, .ref m0), (1, .ref x0), (0, .ref b)]) (hfC : cells + 5 ≤ room_1.cells) (hfS : slots + 68 ≤ room_1.slots) (kk : ∀ (H1 : Heap) (locs1 : List Loc) (σ1 : Sg) (th1 : Int32) (f1 : Nat → Int64) (ls1 : Array Slot), VY σ1 → LI E s.heap.size x0 m0 qo σ1 σ1 th1 f1 H1 → va_S (fun q => s.heap.size ≤ q) s.heap H1 locs1 → lv_has ls1 9 [(4, .int (nI i)), (3, .ref qo), (2, .ref m0), (1, .ref x0), (0, .ref b)] → W p l e room_1 s m args below meth c H1 locs1 (cells + 5) (slots + 68) Q (F0 m 1176 ls1 [])) : W p l e room_1 s m args below meth c H locs cells slots Q (F0 m 568 ls []) := by
  obtain ⟨o, ho⟩ : ∃ o, o = oCo σ (xs (i + 1)) (xs (i + 2)) (xs (i + 3)) := ⟨_, rfl⟩
  have hY : VY o.2.2 := by rw [ho]; exact Y_come hv (xs (i + 1)) (xs (i + 2)) (xs (i + 3))
  refine lv_aload_n hx hb dL_law_568 rfl (lv_at hl 3 rfl) ?_
  refine l_sc hx hb hX hbl hL hS hl (j0 := 4) (j4 := 0) rfl rfl 1 (by omega) dL_law_569 dL_law_570 (fun Hp rs h => lv_iconst (v := nI 1) hx hb dL_law_572 (by decide) h) dL_law_573 dL_law_574 ?_
  refine l_sc hx hb hX hbl hL hS hl (j0 := 4) (j4 := 0) rfl rfl 2 (by omega) dL_law_575 dL_law_576 (fun Hp rs h => lv_iconst (v := nI 2) hx hb dL_law_578 (by decide) h) dL_law_579 dL_law_580 ?_
  refine l_sc hx hb hX hbl hL hS hl (j0 := 4) (j4 := 0) rfl rfl 3 (by omega) dL_law_581 dL_law_582 (fun Hp rs h => lv_iconst (v := nI 3) hx hb dL_law_584 (by decide) h) dL_law_585 dL_law_586 ?_
  refine lv_aload_n hx hb dL_law_587 rfl (lv_at hl 1 rfl) ?_
  refine l_w 5 [.int (xs (i + 1)), .int (xs (i + 2)), .int (xs (i + 3))] [] hx hb hml hown hts hK hZ (o := o) (fun A g M fo hC hq => by rw [ho]; exact W_come l hl9 E A g M σ hv.1 hC.1 hC.2.1 hC.2.2 hv.2 (xs (i + 1)) (xs (i + 2)) (xs (i + 3)) qo hq fo) gL_law_L_come rfl (by decide +kernel) rfl ⟨Nat.le_of_ble_eq_true rfl, Nat.le_of_ble_eq_true rfl⟩ hl.1 (Nat.le_of_ble_eq_true rfl) ⟨by omega, by omega⟩ rfl dL_law_588 hS hI (fun H locs f1 hI hf1 hS => ?_)
  refine W.eq (g2 := F0 m 591 ls [.int o.1]) rfl ?_
  refine lv_istore (lv' := [(5, .int o.1), (4, .int (nI i)), (3, .ref qo), (2, .ref m0), (1, .ref x0), (0, .ref b)]) hx hb dL_law_591 hl (by decide) rfl (fun ls hl => ?_)
  refine lv_aload_n hx hb dL_law_593 rfl (lv_at hl 3 rfl) ?_
  refine l_sc hx hb hX hbl hL hS hl (j0 := 5) (j4 := 1) rfl rfl 1 (by omega) dL_law_594 dL_law_595 (fun Hp rs h => lv_iconst (v := nI 1) hx hb dL_law_597 (by decide) h) dL_law_598 dL_law_599 ?_
  refine l_sc hx hb hX hbl hL hS hl (j0 := 5) (j4 := 1) rfl rfl 2 (by omega) dL_law_600 dL_law_601 (fun Hp rs h => lv_iconst (v := nI 2) hx hb dL_law_603 (by decide) h) dL_law_604 dL_law_605 ?_
  refine l_sc hx hb hX hbl hL hS hl (j0 := 5) (j4 := 1) rfl rfl 3 (by omega) dL_law_606 dL_law_607 (fun Hp rs h => lv_iconst (v := nI 3) hx hb dL_law_609 (by decide) h) dL_law_610 dL_law_611 ?_
  refine l_m 3 [.int (xs (i + 1)), .int (xs (i + 2)), .int (xs (i + 3))] [] hx hb hml hown hts hK (o := o) (fun A g M hW => by rw [ho]; exact R_come l E A g M σ th hv.1 hW (xs (i + 1)) (xs (i + 2)) (xs (i + 3))) gL_law_X5_come rfl (by decide +kernel) rfl ⟨Nat.le_of_ble_eq_true rfl, Nat.le_of_ble_eq_true rfl⟩ hl.1 (Nat.le_of_ble_eq_true rfl) ⟨by omega, by omega⟩ rfl dL_law_612 hS hI (fun H locs hI hS => ?_)
  refine W.eq (g2 := F0 m 615 ls [.int o.2.1]) rfl ?_
  refine lv_istore (lv' := [(6, .int o.2.1), (5, .int o.1), (4, .int (nI i)), (3, .ref qo), (2, .ref m0), (1, .ref x0), (0, .ref b)]) hx hb dL_law_615 hl (by decide) rfl (fun ls hl => ?_)
  refine lv_aload_n hx hb dL_law_617 rfl (lv_at hl 4 rfl) ?_
  refine l_th [] hx hb hml hown hts hK gL_law_X5_thrown ⟨Nat.le_of_ble_eq_true rfl, Nat.le_of_ble_eq_true rfl⟩ hl.1 (Nat.le_of_ble_eq_true rfl) ⟨by omega, by omega⟩ dL_law_618 hS hI ?_
  refine W.eq (g2 := F0 m 621 ls [.int o.1]) rfl ?_
  refine lv_iload hx hb dL_law_621 (lv_at hl 1 rfl) ?_
  refine lv_icmp_eq (tgt := 628) hx hb dL_law_623 (by decide) (fun _ => ?_) (fun h => absurd rfl h)
  refine lv_iload hx hb dL_law_628 (lv_at hl 1 rfl) ?_
  refine lv_if_ne (tgt := 645) hx hb dL_law_630 (by decide) (fun c1 => ?_) (fun c1 => ?_)
  · refine lv_goto (tgt := 1176) hx hb dL_law_645 (by decide) ?_
    exact kk H locs _ _ _ ls hY hI hS (lv_sub hl [2, 3, 4, 5, 6] rfl)
  · refine lv_aload_n hx hb dL_law_633 rfl (lv_at hl 3 rfl) ?_
    refine lv_iconst (v := 0) hx hb dL_law_634 (by decide) ?_
    refine o_lald hx hb hK hI.out dL_law_635 ?_
    refine lv_iload hx hb dL_law_636 (lv_at hl 0 rfl) ?_
    refine lv_i2l hx hb dL_law_638 rfl ?_
    refine lv_lcmpE hx hb (hf1 c1) dL_law_639 ?_
    refine lv_if_eq (tgt := 645) hx hb dL_law_640 (by decide) (fun _ => ?_) (fun h => absurd rfl h)
    refine lv_goto (tgt := 1176) hx hb dL_law_645 (by decide) ?_
    exact kk H locs _ _ _ ls hY hI hS (lv_sub hl [2, 3, 4, 5, 6] rfl)
set_option maxHeartbeats 4000000 in
set_option maxRecDepth 100000 in
theorem b_bid (hx : p.tables.exec = Jvm.exec) (hb : c.code = cL_law) (hml : c.maxLocals = 9) (hown : s.vm.findClass RL = some m.cls) (hts : ∀ w ∈ wsL_law, w.before args s = true) (hK : kK E s) (hZ : Zx E (fun q => s.heap.size ≤ q) s s.heap) (hX : va_X b L xs s s.heap) (hbl : b < s.heap.size) (hl9 : l.stackTraces = false) (hi : i + 4 < L) (hL : L ≤ 2560) (hv : VY σ) (hS : va_S (fun q => s.heap.size ≤ q) s.heap H locs) (hI : LI E s.heap.size x0 m0 qo σ σ th f H) (hl : lv_has ls 9 [(4, .int (nI i)), (3, .ref qo), (2, .ref m0), (1, .ref x0), (0, .ref b)]) (hfC : cells + 5 ≤ room_1.cells) (hfS : slots + 68 ≤ room_1.slots) (kk : ∀ (H1 : Heap) (locs1 : List Loc) (σ1 : Sg) (th1 : Int32) (f1 : Nat → Int64) (ls1 : Array Slot), VY σ1 → LI E s.heap.size x0 m0 qo σ1 σ1 th1 f1 H1 → va_S (fun q => s.heap.size ≤ q) s.heap H1 locs1 → lv_has ls1 9 [(4, .int (nI i)), (3, .ref qo), (2, .ref m0), (1, .ref x0), (0, .ref b)] → W p l e room_1 s m args below meth c H1 locs1 (cells + 5) (slots + 68) Q (F0 m 1176 ls1 [])) : W p l e room_1 s m args below meth c H locs cells slots Q (F0 m 648 ls []) := by
  obtain ⟨o, ho⟩ : ∃ o, o = oBd σ (xs (i + 1)) (xs (i + 2)) (xs (i + 3)) := ⟨_, rfl⟩
  have hY : VY o.2.2 := by rw [ho]; exact Y_bid hv (xs (i + 1)) (xs (i + 2)) (xs (i + 3))
  refine lv_aload_n hx hb dL_law_648 rfl (lv_at hl 3 rfl) ?_
  refine l_sc hx hb hX hbl hL hS hl (j0 := 4) (j4 := 0) rfl rfl 1 (by omega) dL_law_649 dL_law_650 (fun Hp rs h => lv_iconst (v := nI 1) hx hb dL_law_652 (by decide) h) dL_law_653 dL_law_654 ?_
  refine l_sc hx hb hX hbl hL hS hl (j0 := 4) (j4 := 0) rfl rfl 2 (by omega) dL_law_655 dL_law_656 (fun Hp rs h => lv_iconst (v := nI 2) hx hb dL_law_658 (by decide) h) dL_law_659 dL_law_660 ?_
  refine l_sc hx hb hX hbl hL hS hl (j0 := 4) (j4 := 0) rfl rfl 3 (by omega) dL_law_661 dL_law_662 (fun Hp rs h => lv_iconst (v := nI 3) hx hb dL_law_664 (by decide) h) dL_law_665 dL_law_666 ?_
  refine lv_aload_n hx hb dL_law_667 rfl (lv_at hl 1 rfl) ?_
  refine l_w 5 [.int (xs (i + 1)), .int (xs (i + 2)), .int (xs (i + 3))] [] hx hb hml hown hts hK hZ (o := o) (fun A g M fo hC hq => by rw [ho]; exact W_bid l hl9 E A g M σ hv.1 hC.1 hC.2.1 hC.2.2 hv.2 (xs (i + 1)) (xs (i + 2)) (xs (i + 3)) qo hq fo) gL_law_L_bid rfl (by decide +kernel) rfl ⟨Nat.le_of_ble_eq_true rfl, Nat.le_of_ble_eq_true rfl⟩ hl.1 (Nat.le_of_ble_eq_true rfl) ⟨by omega, by omega⟩ rfl dL_law_668 hS hI (fun H locs f1 hI hf1 hS => ?_)
  refine W.eq (g2 := F0 m 671 ls [.int o.1]) rfl ?_
  refine lv_istore (lv' := [(5, .int o.1), (4, .int (nI i)), (3, .ref qo), (2, .ref m0), (1, .ref x0), (0, .ref b)]) hx hb dL_law_671 hl (by decide) rfl (fun ls hl => ?_)
  refine lv_aload_n hx hb dL_law_673 rfl (lv_at hl 3 rfl) ?_
  refine l_sc hx hb hX hbl hL hS hl (j0 := 5) (j4 := 1) rfl rfl 1 (by omega) dL_law_674 dL_law_675 (fun Hp rs h => lv_iconst (v := nI 1) hx hb dL_law_677 (by decide) h) dL_law_678 dL_law_679 ?_
  refine l_sc hx hb hX hbl hL hS hl (j0 := 5) (j4 := 1) rfl rfl 2 (by omega) dL_law_680 dL_law_681 (fun Hp rs h => lv_iconst (v := nI 2) hx hb dL_law_683 (by decide) h) dL_law_684 dL_law_685 ?_
  refine l_sc hx hb hX hbl hL hS hl (j0 := 5) (j4 := 1) rfl rfl 3 (by omega) dL_law_686 dL_law_687 (fun Hp rs h => lv_iconst (v := nI 3) hx hb dL_law_689 (by decide) h) dL_law_690 dL_law_691 ?_
  refine l_m 3 [.int (xs (i + 1)), .int (xs (i + 2)), .int (xs (i + 3))] [] hx hb hml hown hts hK (o := o) (fun A g M hW => by rw [ho]; exact R_bid l E A g M σ th hv.1 hW (xs (i + 1)) (xs (i + 2)) (xs (i + 3))) gL_law_X5_bid rfl (by decide +kernel) rfl ⟨Nat.le_of_ble_eq_true rfl, Nat.le_of_ble_eq_true rfl⟩ hl.1 (Nat.le_of_ble_eq_true rfl) ⟨by omega, by omega⟩ rfl dL_law_692 hS hI (fun H locs hI hS => ?_)
  refine W.eq (g2 := F0 m 695 ls [.int o.2.1]) rfl ?_
  refine lv_istore (lv' := [(6, .int o.2.1), (5, .int o.1), (4, .int (nI i)), (3, .ref qo), (2, .ref m0), (1, .ref x0), (0, .ref b)]) hx hb dL_law_695 hl (by decide) rfl (fun ls hl => ?_)
  refine lv_aload_n hx hb dL_law_697 rfl (lv_at hl 4 rfl) ?_
  refine l_th [] hx hb hml hown hts hK gL_law_X5_thrown ⟨Nat.le_of_ble_eq_true rfl, Nat.le_of_ble_eq_true rfl⟩ hl.1 (Nat.le_of_ble_eq_true rfl) ⟨by omega, by omega⟩ dL_law_698 hS hI ?_
  refine W.eq (g2 := F0 m 701 ls [.int o.1]) rfl ?_
  refine lv_iload hx hb dL_law_701 (lv_at hl 1 rfl) ?_
  refine lv_icmp_eq (tgt := 708) hx hb dL_law_703 (by decide) (fun _ => ?_) (fun h => absurd rfl h)
  refine lv_iload hx hb dL_law_708 (lv_at hl 1 rfl) ?_
  refine lv_if_ne (tgt := 732) hx hb dL_law_710 (by decide) (fun c1 => ?_) (fun c1 => ?_)
  · refine lv_goto (tgt := 1176) hx hb dL_law_732 (by decide) ?_
    exact kk H locs _ _ _ ls hY hI hS (lv_sub hl [2, 3, 4, 5, 6] rfl)
  · refine lv_aload_n hx hb dL_law_713 rfl (lv_at hl 3 rfl) ?_
    refine lv_iconst (v := 0) hx hb dL_law_714 (by decide) ?_
    refine o_lald hx hb hK hI.out dL_law_715 ?_
    refine lv_iload hx hb dL_law_716 (lv_at hl 0 rfl) ?_
    have h01 : o.2.1 = 0 ∨ o.2.1 = 1 := by rw [ho]; exact oBd_01 _ _ _ _
    refine lv_if_eq (tgt := 725) hx hb dL_law_718 (by decide) (fun c2 => ?_) (fun c2 => ?_)
    · refine lv_lconst (v := 0) hx hb dL_law_725 (by decide) ?_
      refine lv_lcmpE hx hb ((hf1 c1).trans (by rw [c2]; rfl)) dL_law_726 ?_
      refine lv_if_eq (tgt := 732) hx hb dL_law_727 (by decide) (fun _ => ?_) (fun h => absurd rfl h)
      refine lv_goto (tgt := 1176) hx hb dL_law_732 (by decide) ?_
      exact kk H locs _ _ _ ls hY hI hS (lv_sub hl [2, 3, 4, 5, 6] rfl)
    · have c3 := h01.resolve_left c2
      refine lv_lconst (v := 1) hx hb dL_law_721 (by decide) ?_
      refine lv_goto (tgt := 726) hx hb dL_law_722 (by decide) ?_
      refine lv_lcmpE hx hb ((hf1 c1).trans (by rw [c3]; rfl)) dL_law_726 ?_
      refine lv_if_eq (tgt := 732) hx hb dL_law_727 (by decide) (fun _ => ?_) (fun h => absurd rfl h)
      refine lv_goto (tgt := 1176) hx hb dL_law_732 (by decide) ?_
      exact kk H locs _ _ _ ls hY hI hS (lv_sub hl [2, 3, 4, 5, 6] rfl)
set_option maxHeartbeats 4000000 in
set_option maxRecDepth 100000 in
theorem b_leave (hx : p.tables.exec = Jvm.exec) (hb : c.code = cL_law) (hml : c.maxLocals = 9) (hown : s.vm.findClass RL = some m.cls) (hts : ∀ w ∈ wsL_law, w.before args s = true) (hK : kK E s) (hZ : Zx E (fun q => s.heap.size ≤ q) s s.heap) (hX : va_X b L xs s s.heap) (hbl : b < s.heap.size) (hl9 : l.stackTraces = false) (hi : i + 4 < L) (hL : L ≤ 2560) (hv : VY σ) (hS : va_S (fun q => s.heap.size ≤ q) s.heap H locs) (hI : LI E s.heap.size x0 m0 qo σ σ th f H) (hl : lv_has ls 9 [(4, .int (nI i)), (3, .ref qo), (2, .ref m0), (1, .ref x0), (0, .ref b)]) (hfC : cells + 5 ≤ room_1.cells) (hfS : slots + 68 ≤ room_1.slots) (kk : ∀ (H1 : Heap) (locs1 : List Loc) (σ1 : Sg) (th1 : Int32) (f1 : Nat → Int64) (ls1 : Array Slot), VY σ1 → LI E s.heap.size x0 m0 qo σ1 σ1 th1 f1 H1 → va_S (fun q => s.heap.size ≤ q) s.heap H1 locs1 → lv_has ls1 9 [(4, .int (nI i)), (3, .ref qo), (2, .ref m0), (1, .ref x0), (0, .ref b)] → W p l e room_1 s m args below meth c H1 locs1 (cells + 5) (slots + 68) Q (F0 m 1176 ls1 [])) : W p l e room_1 s m args below meth c H locs cells slots Q (F0 m 735 ls []) := by
  obtain ⟨o, ho⟩ : ∃ o, o = oLe σ (xs (i + 1)) := ⟨_, rfl⟩
  have hY : VY o.2.2 := by rw [ho]; exact Y_leave hv (xs (i + 1))
  refine lv_aload_n hx hb dL_law_735 rfl (lv_at hl 3 rfl) ?_
  refine l_sc hx hb hX hbl hL hS hl (j0 := 4) (j4 := 0) rfl rfl 1 (by omega) dL_law_736 dL_law_737 (fun Hp rs h => lv_iconst (v := nI 1) hx hb dL_law_739 (by decide) h) dL_law_740 dL_law_741 ?_
  refine lv_aload_n hx hb dL_law_742 rfl (lv_at hl 1 rfl) ?_
  refine l_w 3 [.int (xs (i + 1))] [] hx hb hml hown hts hK hZ (o := o) (fun A g M fo hC hq => by rw [ho]; exact W_leave l hl9 E A g M σ hv.1 hC.1 hC.2.1 hC.2.2 hv.2 (xs (i + 1)) qo hq fo) gL_law_L_leave rfl (by decide +kernel) rfl ⟨Nat.le_of_ble_eq_true rfl, Nat.le_of_ble_eq_true rfl⟩ hl.1 (Nat.le_of_ble_eq_true rfl) ⟨by omega, by omega⟩ rfl dL_law_743 hS hI (fun H locs f1 hI hf1 hS => ?_)
  refine W.eq (g2 := F0 m 746 ls [.int o.1]) rfl ?_
  refine lv_istore (lv' := [(5, .int o.1), (4, .int (nI i)), (3, .ref qo), (2, .ref m0), (1, .ref x0), (0, .ref b)]) hx hb dL_law_746 hl (by decide) rfl (fun ls hl => ?_)
  refine lv_aload_n hx hb dL_law_748 rfl (lv_at hl 3 rfl) ?_
  refine l_sc hx hb hX hbl hL hS hl (j0 := 5) (j4 := 1) rfl rfl 1 (by omega) dL_law_749 dL_law_750 (fun Hp rs h => lv_iconst (v := nI 1) hx hb dL_law_752 (by decide) h) dL_law_753 dL_law_754 ?_
  refine l_m 1 [.int (xs (i + 1))] [] hx hb hml hown hts hK (o := o) (fun A g M hW => by rw [ho]; exact R_leave l E A g M σ th hv.1 hW (xs (i + 1))) gL_law_X5_leave rfl (by decide +kernel) rfl ⟨Nat.le_of_ble_eq_true rfl, Nat.le_of_ble_eq_true rfl⟩ hl.1 (Nat.le_of_ble_eq_true rfl) ⟨by omega, by omega⟩ rfl dL_law_755 hS hI (fun H locs hI hS => ?_)
  refine W.eq (g2 := F0 m 758 ls [.int o.2.1]) rfl ?_
  refine lv_istore (lv' := [(6, .int o.2.1), (5, .int o.1), (4, .int (nI i)), (3, .ref qo), (2, .ref m0), (1, .ref x0), (0, .ref b)]) hx hb dL_law_758 hl (by decide) rfl (fun ls hl => ?_)
  refine lv_aload_n hx hb dL_law_760 rfl (lv_at hl 4 rfl) ?_
  refine l_th [] hx hb hml hown hts hK gL_law_X5_thrown ⟨Nat.le_of_ble_eq_true rfl, Nat.le_of_ble_eq_true rfl⟩ hl.1 (Nat.le_of_ble_eq_true rfl) ⟨by omega, by omega⟩ dL_law_761 hS hI ?_
  refine W.eq (g2 := F0 m 764 ls [.int o.1]) rfl ?_
  refine lv_iload hx hb dL_law_764 (lv_at hl 1 rfl) ?_
  refine lv_icmp_eq (tgt := 771) hx hb dL_law_766 (by decide) (fun _ => ?_) (fun h => absurd rfl h)
  refine lv_iload hx hb dL_law_771 (lv_at hl 1 rfl) ?_
  refine lv_if_ne (tgt := 788) hx hb dL_law_773 (by decide) (fun c1 => ?_) (fun c1 => ?_)
  · refine lv_goto (tgt := 1176) hx hb dL_law_788 (by decide) ?_
    exact kk H locs _ _ _ ls hY hI hS (lv_sub hl [2, 3, 4, 5, 6] rfl)
  · refine lv_aload_n hx hb dL_law_776 rfl (lv_at hl 3 rfl) ?_
    refine lv_iconst (v := 0) hx hb dL_law_777 (by decide) ?_
    refine o_lald hx hb hK hI.out dL_law_778 ?_
    refine lv_iload hx hb dL_law_779 (lv_at hl 0 rfl) ?_
    refine lv_i2l hx hb dL_law_781 rfl ?_
    refine lv_lcmpE hx hb (hf1 c1) dL_law_782 ?_
    refine lv_if_eq (tgt := 788) hx hb dL_law_783 (by decide) (fun _ => ?_) (fun h => absurd rfl h)
    refine lv_goto (tgt := 1176) hx hb dL_law_788 (by decide) ?_
    exact kk H locs _ _ _ ls hY hI hS (lv_sub hl [2, 3, 4, 5, 6] rfl)
set_option maxHeartbeats 4000000 in
set_option maxRecDepth 100000 in
theorem b_guest (hx : p.tables.exec = Jvm.exec) (hb : c.code = cL_law) (hml : c.maxLocals = 9) (hown : s.vm.findClass RL = some m.cls) (hts : ∀ w ∈ wsL_law, w.before args s = true) (hK : kK E s) (hZ : Zx E (fun q => s.heap.size ≤ q) s s.heap) (hX : va_X b L xs s s.heap) (hbl : b < s.heap.size) (hl9 : l.stackTraces = false) (hi : i + 4 < L) (hL : L ≤ 2560) (hv : VY σ) (hS : va_S (fun q => s.heap.size ≤ q) s.heap H locs) (hI : LI E s.heap.size x0 m0 qo σ σ th f H) (hl : lv_has ls 9 [(4, .int (nI i)), (3, .ref qo), (2, .ref m0), (1, .ref x0), (0, .ref b)]) (hfC : cells + 5 ≤ room_1.cells) (hfS : slots + 68 ≤ room_1.slots) (kk : ∀ (H1 : Heap) (locs1 : List Loc) (σ1 : Sg) (th1 : Int32) (f1 : Nat → Int64) (ls1 : Array Slot), VY σ1 → LI E s.heap.size x0 m0 qo σ1 σ1 th1 f1 H1 → va_S (fun q => s.heap.size ≤ q) s.heap H1 locs1 → lv_has ls1 9 [(4, .int (nI i)), (3, .ref qo), (2, .ref m0), (1, .ref x0), (0, .ref b)] → W p l e room_1 s m args below meth c H1 locs1 (cells + 5) (slots + 68) Q (F0 m 1176 ls1 [])) : W p l e room_1 s m args below meth c H locs cells slots Q (F0 m 791 ls []) := by
  obtain ⟨o, ho⟩ : ∃ o, o = oGu σ (xs (i + 1)) (xs (i + 2)) := ⟨_, rfl⟩
  have hY : VY o.2.2 := by rw [ho]; exact Y_guest hv (xs (i + 1)) (xs (i + 2))
  refine lv_aload_n hx hb dL_law_791 rfl (lv_at hl 3 rfl) ?_
  refine l_sc hx hb hX hbl hL hS hl (j0 := 4) (j4 := 0) rfl rfl 1 (by omega) dL_law_792 dL_law_793 (fun Hp rs h => lv_iconst (v := nI 1) hx hb dL_law_795 (by decide) h) dL_law_796 dL_law_797 ?_
  refine l_sc hx hb hX hbl hL hS hl (j0 := 4) (j4 := 0) rfl rfl 2 (by omega) dL_law_798 dL_law_799 (fun Hp rs h => lv_iconst (v := nI 2) hx hb dL_law_801 (by decide) h) dL_law_802 dL_law_803 ?_
  refine lv_aload_n hx hb dL_law_804 rfl (lv_at hl 1 rfl) ?_
  refine l_w 4 [.int (xs (i + 1)), .int (xs (i + 2))] [] hx hb hml hown hts hK hZ (o := o) (fun A g M fo hC hq => by rw [ho]; exact W_guest l hl9 E A g M σ hv.1 hC.1 hC.2.1 hC.2.2 hv.2 (xs (i + 1)) (xs (i + 2)) qo hq fo) gL_law_L_guest rfl (by decide +kernel) rfl ⟨Nat.le_of_ble_eq_true rfl, Nat.le_of_ble_eq_true rfl⟩ hl.1 (Nat.le_of_ble_eq_true rfl) ⟨by omega, by omega⟩ rfl dL_law_805 hS hI (fun H locs f1 hI hf1 hS => ?_)
  refine W.eq (g2 := F0 m 808 ls [.int o.1]) rfl ?_
  refine lv_istore (lv' := [(5, .int o.1), (4, .int (nI i)), (3, .ref qo), (2, .ref m0), (1, .ref x0), (0, .ref b)]) hx hb dL_law_808 hl (by decide) rfl (fun ls hl => ?_)
  refine lv_aload_n hx hb dL_law_810 rfl (lv_at hl 3 rfl) ?_
  refine l_sc hx hb hX hbl hL hS hl (j0 := 5) (j4 := 1) rfl rfl 1 (by omega) dL_law_811 dL_law_812 (fun Hp rs h => lv_iconst (v := nI 1) hx hb dL_law_814 (by decide) h) dL_law_815 dL_law_816 ?_
  refine l_sc hx hb hX hbl hL hS hl (j0 := 5) (j4 := 1) rfl rfl 2 (by omega) dL_law_817 dL_law_818 (fun Hp rs h => lv_iconst (v := nI 2) hx hb dL_law_820 (by decide) h) dL_law_821 dL_law_822 ?_
  refine l_m 2 [.int (xs (i + 1)), .int (xs (i + 2))] [] hx hb hml hown hts hK (o := o) (fun A g M hW => by rw [ho]; exact R_guest l E A g M σ th hv.1 hW (xs (i + 1)) (xs (i + 2))) gL_law_X5_guest rfl (by decide +kernel) rfl ⟨Nat.le_of_ble_eq_true rfl, Nat.le_of_ble_eq_true rfl⟩ hl.1 (Nat.le_of_ble_eq_true rfl) ⟨by omega, by omega⟩ rfl dL_law_823 hS hI (fun H locs hI hS => ?_)
  refine W.eq (g2 := F0 m 826 ls [.int o.2.1]) rfl ?_
  refine lv_istore (lv' := [(6, .int o.2.1), (5, .int o.1), (4, .int (nI i)), (3, .ref qo), (2, .ref m0), (1, .ref x0), (0, .ref b)]) hx hb dL_law_826 hl (by decide) rfl (fun ls hl => ?_)
  refine lv_aload_n hx hb dL_law_828 rfl (lv_at hl 4 rfl) ?_
  refine l_th [] hx hb hml hown hts hK gL_law_X5_thrown ⟨Nat.le_of_ble_eq_true rfl, Nat.le_of_ble_eq_true rfl⟩ hl.1 (Nat.le_of_ble_eq_true rfl) ⟨by omega, by omega⟩ dL_law_829 hS hI ?_
  refine W.eq (g2 := F0 m 832 ls [.int o.1]) rfl ?_
  refine lv_iload hx hb dL_law_832 (lv_at hl 1 rfl) ?_
  refine lv_icmp_eq (tgt := 839) hx hb dL_law_834 (by decide) (fun _ => ?_) (fun h => absurd rfl h)
  refine lv_iload hx hb dL_law_839 (lv_at hl 1 rfl) ?_
  refine lv_if_ne (tgt := 856) hx hb dL_law_841 (by decide) (fun c1 => ?_) (fun c1 => ?_)
  · refine lv_goto (tgt := 1176) hx hb dL_law_856 (by decide) ?_
    exact kk H locs _ _ _ ls hY hI hS (lv_sub hl [2, 3, 4, 5, 6] rfl)
  · refine lv_aload_n hx hb dL_law_844 rfl (lv_at hl 3 rfl) ?_
    refine lv_iconst (v := 0) hx hb dL_law_845 (by decide) ?_
    refine o_lald hx hb hK hI.out dL_law_846 ?_
    refine lv_iload hx hb dL_law_847 (lv_at hl 0 rfl) ?_
    refine lv_i2l hx hb dL_law_849 rfl ?_
    refine lv_lcmpE hx hb (hf1 c1) dL_law_850 ?_
    refine lv_if_eq (tgt := 856) hx hb dL_law_851 (by decide) (fun _ => ?_) (fun h => absurd rfl h)
    refine lv_goto (tgt := 1176) hx hb dL_law_856 (by decide) ?_
    exact kk H locs _ _ _ ls hY hI hS (lv_sub hl [2, 3, 4, 5, 6] rfl)
set_option maxHeartbeats 4000000 in
set_option maxRecDepth 100000 in
theorem b_wins (hx : p.tables.exec = Jvm.exec) (hb : c.code = cL_law) (hml : c.maxLocals = 9) (hown : s.vm.findClass RL = some m.cls) (hts : ∀ w ∈ wsL_law, w.before args s = true) (hK : kK E s) (hZ : Zx E (fun q => s.heap.size ≤ q) s s.heap) (hX : va_X b L xs s s.heap) (hbl : b < s.heap.size) (hl9 : l.stackTraces = false) (hi : i + 4 < L) (hL : L ≤ 2560) (hv : VY σ) (hS : va_S (fun q => s.heap.size ≤ q) s.heap H locs) (hI : LI E s.heap.size x0 m0 qo σ σ th f H) (hl : lv_has ls 9 [(4, .int (nI i)), (3, .ref qo), (2, .ref m0), (1, .ref x0), (0, .ref b)]) (hfC : cells + 5 ≤ room_1.cells) (hfS : slots + 68 ≤ room_1.slots) (kk : ∀ (H1 : Heap) (locs1 : List Loc) (σ1 : Sg) (th1 : Int32) (f1 : Nat → Int64) (ls1 : Array Slot), VY σ1 → LI E s.heap.size x0 m0 qo σ1 σ1 th1 f1 H1 → va_S (fun q => s.heap.size ≤ q) s.heap H1 locs1 → lv_has ls1 9 [(4, .int (nI i)), (3, .ref qo), (2, .ref m0), (1, .ref x0), (0, .ref b)] → W p l e room_1 s m args below meth c H1 locs1 (cells + 5) (slots + 68) Q (F0 m 1176 ls1 [])) : W p l e room_1 s m args below meth c H locs cells slots Q (F0 m 859 ls []) := by
  obtain ⟨o, ho⟩ : ∃ o, o = oWi σ (xs (i + 1)) (xs (i + 2)) := ⟨_, rfl⟩
  have hY : VY o.2.2 := by rw [ho]; exact Y_wins hv (xs (i + 1)) (xs (i + 2))
  refine lv_aload_n hx hb dL_law_859 rfl (lv_at hl 3 rfl) ?_
  refine l_sc hx hb hX hbl hL hS hl (j0 := 4) (j4 := 0) rfl rfl 1 (by omega) dL_law_860 dL_law_861 (fun Hp rs h => lv_iconst (v := nI 1) hx hb dL_law_863 (by decide) h) dL_law_864 dL_law_865 ?_
  refine l_sc hx hb hX hbl hL hS hl (j0 := 4) (j4 := 0) rfl rfl 2 (by omega) dL_law_866 dL_law_867 (fun Hp rs h => lv_iconst (v := nI 2) hx hb dL_law_869 (by decide) h) dL_law_870 dL_law_871 ?_
  refine lv_aload_n hx hb dL_law_872 rfl (lv_at hl 1 rfl) ?_
  refine l_w 4 [.int (xs (i + 1)), .int (xs (i + 2))] [] hx hb hml hown hts hK hZ (o := o) (fun A g M fo hC hq => by rw [ho]; exact W_wins l hl9 E A g M σ hv.1 hC.1 hC.2.1 hC.2.2 hv.2 (xs (i + 1)) (xs (i + 2)) qo hq fo) gL_law_L_wins rfl (by decide +kernel) rfl ⟨Nat.le_of_ble_eq_true rfl, Nat.le_of_ble_eq_true rfl⟩ hl.1 (Nat.le_of_ble_eq_true rfl) ⟨by omega, by omega⟩ rfl dL_law_873 hS hI (fun H locs f1 hI hf1 hS => ?_)
  refine W.eq (g2 := F0 m 876 ls [.int o.1]) rfl ?_
  refine lv_istore (lv' := [(5, .int o.1), (4, .int (nI i)), (3, .ref qo), (2, .ref m0), (1, .ref x0), (0, .ref b)]) hx hb dL_law_876 hl (by decide) rfl (fun ls hl => ?_)
  refine lv_aload_n hx hb dL_law_878 rfl (lv_at hl 3 rfl) ?_
  refine l_sc hx hb hX hbl hL hS hl (j0 := 5) (j4 := 1) rfl rfl 1 (by omega) dL_law_879 dL_law_880 (fun Hp rs h => lv_iconst (v := nI 1) hx hb dL_law_882 (by decide) h) dL_law_883 dL_law_884 ?_
  refine l_sc hx hb hX hbl hL hS hl (j0 := 5) (j4 := 1) rfl rfl 2 (by omega) dL_law_885 dL_law_886 (fun Hp rs h => lv_iconst (v := nI 2) hx hb dL_law_888 (by decide) h) dL_law_889 dL_law_890 ?_
  refine l_m 2 [.int (xs (i + 1)), .int (xs (i + 2))] [] hx hb hml hown hts hK (o := o) (fun A g M hW => by rw [ho]; exact R_wins l E A g M σ th hv.1 hW (xs (i + 1)) (xs (i + 2))) gL_law_X5_wins rfl (by decide +kernel) rfl ⟨Nat.le_of_ble_eq_true rfl, Nat.le_of_ble_eq_true rfl⟩ hl.1 (Nat.le_of_ble_eq_true rfl) ⟨by omega, by omega⟩ rfl dL_law_891 hS hI (fun H locs hI hS => ?_)
  refine W.eq (g2 := F0 m 894 ls [.int o.2.1]) rfl ?_
  refine lv_istore (lv' := [(6, .int o.2.1), (5, .int o.1), (4, .int (nI i)), (3, .ref qo), (2, .ref m0), (1, .ref x0), (0, .ref b)]) hx hb dL_law_894 hl (by decide) rfl (fun ls hl => ?_)
  refine lv_aload_n hx hb dL_law_896 rfl (lv_at hl 4 rfl) ?_
  refine l_th [] hx hb hml hown hts hK gL_law_X5_thrown ⟨Nat.le_of_ble_eq_true rfl, Nat.le_of_ble_eq_true rfl⟩ hl.1 (Nat.le_of_ble_eq_true rfl) ⟨by omega, by omega⟩ dL_law_897 hS hI ?_
  refine W.eq (g2 := F0 m 900 ls [.int o.1]) rfl ?_
  refine lv_iload hx hb dL_law_900 (lv_at hl 1 rfl) ?_
  refine lv_icmp_eq (tgt := 907) hx hb dL_law_902 (by decide) (fun _ => ?_) (fun h => absurd rfl h)
  refine lv_iload hx hb dL_law_907 (lv_at hl 1 rfl) ?_
  refine lv_if_ne (tgt := 924) hx hb dL_law_909 (by decide) (fun c1 => ?_) (fun c1 => ?_)
  · refine lv_goto (tgt := 1176) hx hb dL_law_924 (by decide) ?_
    exact kk H locs _ _ _ ls hY hI hS (lv_sub hl [2, 3, 4, 5, 6] rfl)
  · refine lv_aload_n hx hb dL_law_912 rfl (lv_at hl 3 rfl) ?_
    refine lv_iconst (v := 0) hx hb dL_law_913 (by decide) ?_
    refine o_lald hx hb hK hI.out dL_law_914 ?_
    refine lv_iload hx hb dL_law_915 (lv_at hl 0 rfl) ?_
    refine lv_i2l hx hb dL_law_917 rfl ?_
    refine lv_lcmpE hx hb (hf1 c1) dL_law_918 ?_
    refine lv_if_eq (tgt := 924) hx hb dL_law_919 (by decide) (fun _ => ?_) (fun h => absurd rfl h)
    refine lv_goto (tgt := 1176) hx hb dL_law_924 (by decide) ?_
    exact kk H locs _ _ _ ls hY hI hS (lv_sub hl [2, 3, 4, 5, 6] rfl)
set_option maxHeartbeats 4000000 in
set_option maxRecDepth 100000 in
theorem b_count (hx : p.tables.exec = Jvm.exec) (hb : c.code = cL_law) (hml : c.maxLocals = 9) (hown : s.vm.findClass RL = some m.cls) (hts : ∀ w ∈ wsL_law, w.before args s = true) (hK : kK E s) (hZ : Zx E (fun q => s.heap.size ≤ q) s s.heap) (hX : va_X b L xs s s.heap) (hbl : b < s.heap.size) (hl9 : l.stackTraces = false) (hi : i + 4 < L) (hL : L ≤ 2560) (hv : VY σ) (hS : va_S (fun q => s.heap.size ≤ q) s.heap H locs) (hI : LI E s.heap.size x0 m0 qo σ σ th f H) (hl : lv_has ls 9 [(4, .int (nI i)), (3, .ref qo), (2, .ref m0), (1, .ref x0), (0, .ref b)]) (hfC : cells + 5 ≤ room_1.cells) (hfS : slots + 68 ≤ room_1.slots) (kk : ∀ (H1 : Heap) (locs1 : List Loc) (σ1 : Sg) (th1 : Int32) (f1 : Nat → Int64) (ls1 : Array Slot), VY σ1 → LI E s.heap.size x0 m0 qo σ1 σ1 th1 f1 H1 → va_S (fun q => s.heap.size ≤ q) s.heap H1 locs1 → lv_has ls1 9 [(4, .int (nI i)), (3, .ref qo), (2, .ref m0), (1, .ref x0), (0, .ref b)] → W p l e room_1 s m args below meth c H1 locs1 (cells + 5) (slots + 68) Q (F0 m 1176 ls1 [])) : W p l e room_1 s m args below meth c H locs cells slots Q (F0 m 940 ls []) := by
  obtain ⟨o, ho⟩ : ∃ o, o = oCt σ (xs (i + 1)) := ⟨_, rfl⟩
  have hY : VY o.2.2 := by rw [ho]; exact Y_count hv (xs (i + 1))
  refine lv_aload_n hx hb dL_law_940 rfl (lv_at hl 3 rfl) ?_
  refine l_sc hx hb hX hbl hL hS hl (j0 := 4) (j4 := 0) rfl rfl 1 (by omega) dL_law_941 dL_law_942 (fun Hp rs h => lv_iconst (v := nI 1) hx hb dL_law_944 (by decide) h) dL_law_945 dL_law_946 ?_
  refine lv_aload_n hx hb dL_law_947 rfl (lv_at hl 1 rfl) ?_
  refine l_w 3 [.int (xs (i + 1))] [] hx hb hml hown hts hK hZ (o := o) (fun A g M fo hC hq => by rw [ho]; exact W_count l hl9 E A g M σ hv.1 hC.1 hC.2.1 hC.2.2 hv.2 (xs (i + 1)) qo hq fo) gL_law_L_count rfl (by decide +kernel) rfl ⟨Nat.le_of_ble_eq_true rfl, Nat.le_of_ble_eq_true rfl⟩ hl.1 (Nat.le_of_ble_eq_true rfl) ⟨by omega, by omega⟩ rfl dL_law_948 hS hI (fun H locs f1 hI hf1 hS => ?_)
  refine W.eq (g2 := F0 m 951 ls [.int o.1]) rfl ?_
  refine lv_istore (lv' := [(5, .int o.1), (4, .int (nI i)), (3, .ref qo), (2, .ref m0), (1, .ref x0), (0, .ref b)]) hx hb dL_law_951 hl (by decide) rfl (fun ls hl => ?_)
  refine lv_aload_n hx hb dL_law_953 rfl (lv_at hl 3 rfl) ?_
  refine l_sc hx hb hX hbl hL hS hl (j0 := 5) (j4 := 1) rfl rfl 1 (by omega) dL_law_954 dL_law_955 (fun Hp rs h => lv_iconst (v := nI 1) hx hb dL_law_957 (by decide) h) dL_law_958 dL_law_959 ?_
  refine l_m 1 [.int (xs (i + 1))] [] hx hb hml hown hts hK (o := o) (fun A g M hW => by rw [ho]; exact R_count l E A g M σ th hv.1 hW (xs (i + 1))) gL_law_X5_count rfl (by decide +kernel) rfl ⟨Nat.le_of_ble_eq_true rfl, Nat.le_of_ble_eq_true rfl⟩ hl.1 (Nat.le_of_ble_eq_true rfl) ⟨by omega, by omega⟩ rfl dL_law_960 hS hI (fun H locs hI hS => ?_)
  refine W.eq (g2 := F0 m 963 ls [.int o.2.1]) rfl ?_
  refine lv_istore (lv' := [(6, .int o.2.1), (5, .int o.1), (4, .int (nI i)), (3, .ref qo), (2, .ref m0), (1, .ref x0), (0, .ref b)]) hx hb dL_law_963 hl (by decide) rfl (fun ls hl => ?_)
  refine lv_aload_n hx hb dL_law_965 rfl (lv_at hl 4 rfl) ?_
  refine l_th [] hx hb hml hown hts hK gL_law_X5_thrown ⟨Nat.le_of_ble_eq_true rfl, Nat.le_of_ble_eq_true rfl⟩ hl.1 (Nat.le_of_ble_eq_true rfl) ⟨by omega, by omega⟩ dL_law_966 hS hI ?_
  refine W.eq (g2 := F0 m 969 ls [.int o.1]) rfl ?_
  refine lv_iload hx hb dL_law_969 (lv_at hl 1 rfl) ?_
  refine lv_icmp_eq (tgt := 976) hx hb dL_law_971 (by decide) (fun _ => ?_) (fun h => absurd rfl h)
  refine lv_iload hx hb dL_law_976 (lv_at hl 1 rfl) ?_
  refine lv_if_ne (tgt := 993) hx hb dL_law_978 (by decide) (fun c1 => ?_) (fun c1 => ?_)
  · refine lv_goto (tgt := 1176) hx hb dL_law_993 (by decide) ?_
    exact kk H locs _ _ _ ls hY hI hS (lv_sub hl [2, 3, 4, 5, 6] rfl)
  · refine lv_aload_n hx hb dL_law_981 rfl (lv_at hl 3 rfl) ?_
    refine lv_iconst (v := 0) hx hb dL_law_982 (by decide) ?_
    refine o_lald hx hb hK hI.out dL_law_983 ?_
    refine lv_iload hx hb dL_law_984 (lv_at hl 0 rfl) ?_
    refine lv_i2l hx hb dL_law_986 rfl ?_
    refine lv_lcmpE hx hb (hf1 c1) dL_law_987 ?_
    refine lv_if_eq (tgt := 993) hx hb dL_law_988 (by decide) (fun _ => ?_) (fun h => absurd rfl h)
    refine lv_goto (tgt := 1176) hx hb dL_law_993 (by decide) ?_
    exact kk H locs _ _ _ ls hY hI hS (lv_sub hl [2, 3, 4, 5, 6] rfl)
set_option maxHeartbeats 4000000 in
set_option maxRecDepth 100000 in
theorem b_best (hx : p.tables.exec = Jvm.exec) (hb : c.code = cL_law) (hml : c.maxLocals = 9) (hown : s.vm.findClass RL = some m.cls) (hts : ∀ w ∈ wsL_law, w.before args s = true) (hK : kK E s) (hZ : Zx E (fun q => s.heap.size ≤ q) s s.heap) (hX : va_X b L xs s s.heap) (hbl : b < s.heap.size) (hl9 : l.stackTraces = false) (hi : i + 4 < L) (hL : L ≤ 2560) (hv : VY σ) (hS : va_S (fun q => s.heap.size ≤ q) s.heap H locs) (hI : LI E s.heap.size x0 m0 qo σ σ th f H) (hl : lv_has ls 9 [(4, .int (nI i)), (3, .ref qo), (2, .ref m0), (1, .ref x0), (0, .ref b)]) (hfC : cells + 5 ≤ room_1.cells) (hfS : slots + 68 ≤ room_1.slots) (kk : ∀ (H1 : Heap) (locs1 : List Loc) (σ1 : Sg) (th1 : Int32) (f1 : Nat → Int64) (ls1 : Array Slot), VY σ1 → LI E s.heap.size x0 m0 qo σ1 σ1 th1 f1 H1 → va_S (fun q => s.heap.size ≤ q) s.heap H1 locs1 → lv_has ls1 9 [(4, .int (nI i)), (3, .ref qo), (2, .ref m0), (1, .ref x0), (0, .ref b)] → W p l e room_1 s m args below meth c H1 locs1 (cells + 5) (slots + 68) Q (F0 m 1176 ls1 [])) : W p l e room_1 s m args below meth c H locs cells slots Q (F0 m 996 ls []) := by
  obtain ⟨o, ho⟩ : ∃ o, o = oBe σ (xs (i + 1)) := ⟨_, rfl⟩
  have hY : VY o.2.2 := by rw [ho]; exact Y_best hv (xs (i + 1))
  refine lv_aload_n hx hb dL_law_996 rfl (lv_at hl 3 rfl) ?_
  refine l_sc hx hb hX hbl hL hS hl (j0 := 4) (j4 := 0) rfl rfl 1 (by omega) dL_law_997 dL_law_998 (fun Hp rs h => lv_iconst (v := nI 1) hx hb dL_law_1000 (by decide) h) dL_law_1001 dL_law_1002 ?_
  refine lv_aload_n hx hb dL_law_1003 rfl (lv_at hl 1 rfl) ?_
  refine l_w 3 [.int (xs (i + 1))] [] hx hb hml hown hts hK hZ (o := o) (fun A g M fo hC hq => by rw [ho]; exact W_best l hl9 E A g M σ hv.1 hC.1 hC.2.1 hC.2.2 hv.2 (xs (i + 1)) qo hq fo) gL_law_L_best rfl (by decide +kernel) rfl ⟨Nat.le_of_ble_eq_true rfl, Nat.le_of_ble_eq_true rfl⟩ hl.1 (Nat.le_of_ble_eq_true rfl) ⟨by omega, by omega⟩ rfl dL_law_1004 hS hI (fun H locs f1 hI hf1 hS => ?_)
  refine W.eq (g2 := F0 m 1007 ls [.int o.1]) rfl ?_
  refine lv_istore (lv' := [(5, .int o.1), (4, .int (nI i)), (3, .ref qo), (2, .ref m0), (1, .ref x0), (0, .ref b)]) hx hb dL_law_1007 hl (by decide) rfl (fun ls hl => ?_)
  refine lv_aload_n hx hb dL_law_1009 rfl (lv_at hl 3 rfl) ?_
  refine l_sc hx hb hX hbl hL hS hl (j0 := 5) (j4 := 1) rfl rfl 1 (by omega) dL_law_1010 dL_law_1011 (fun Hp rs h => lv_iconst (v := nI 1) hx hb dL_law_1013 (by decide) h) dL_law_1014 dL_law_1015 ?_
  refine l_m 1 [.int (xs (i + 1))] [] hx hb hml hown hts hK (o := o) (fun A g M hW => by rw [ho]; exact R_best l E A g M σ th hv.1 hW (xs (i + 1))) gL_law_X5_best rfl (by decide +kernel) rfl ⟨Nat.le_of_ble_eq_true rfl, Nat.le_of_ble_eq_true rfl⟩ hl.1 (Nat.le_of_ble_eq_true rfl) ⟨by omega, by omega⟩ rfl dL_law_1016 hS hI (fun H locs hI hS => ?_)
  refine W.eq (g2 := F0 m 1019 ls [.int o.2.1]) rfl ?_
  refine lv_istore (lv' := [(6, .int o.2.1), (5, .int o.1), (4, .int (nI i)), (3, .ref qo), (2, .ref m0), (1, .ref x0), (0, .ref b)]) hx hb dL_law_1019 hl (by decide) rfl (fun ls hl => ?_)
  refine lv_aload_n hx hb dL_law_1021 rfl (lv_at hl 4 rfl) ?_
  refine l_th [] hx hb hml hown hts hK gL_law_X5_thrown ⟨Nat.le_of_ble_eq_true rfl, Nat.le_of_ble_eq_true rfl⟩ hl.1 (Nat.le_of_ble_eq_true rfl) ⟨by omega, by omega⟩ dL_law_1022 hS hI ?_
  refine W.eq (g2 := F0 m 1025 ls [.int o.1]) rfl ?_
  refine lv_iload hx hb dL_law_1025 (lv_at hl 1 rfl) ?_
  refine lv_icmp_eq (tgt := 1032) hx hb dL_law_1027 (by decide) (fun _ => ?_) (fun h => absurd rfl h)
  refine lv_iload hx hb dL_law_1032 (lv_at hl 1 rfl) ?_
  refine lv_if_ne (tgt := 1049) hx hb dL_law_1034 (by decide) (fun c1 => ?_) (fun c1 => ?_)
  · refine lv_goto (tgt := 1176) hx hb dL_law_1049 (by decide) ?_
    exact kk H locs _ _ _ ls hY hI hS (lv_sub hl [2, 3, 4, 5, 6] rfl)
  · refine lv_aload_n hx hb dL_law_1037 rfl (lv_at hl 3 rfl) ?_
    refine lv_iconst (v := 0) hx hb dL_law_1038 (by decide) ?_
    refine o_lald hx hb hK hI.out dL_law_1039 ?_
    refine lv_iload hx hb dL_law_1040 (lv_at hl 0 rfl) ?_
    refine lv_i2l hx hb dL_law_1042 rfl ?_
    refine lv_lcmpE hx hb (hf1 c1) dL_law_1043 ?_
    refine lv_if_eq (tgt := 1049) hx hb dL_law_1044 (by decide) (fun _ => ?_) (fun h => absurd rfl h)
    refine lv_goto (tgt := 1176) hx hb dL_law_1049 (by decide) ?_
    exact kk H locs _ _ _ ls hY hI hS (lv_sub hl [2, 3, 4, 5, 6] rfl)
set_option maxHeartbeats 4000000 in
set_option maxRecDepth 100000 in
theorem b_scares (hx : p.tables.exec = Jvm.exec) (hb : c.code = cL_law) (hml : c.maxLocals = 9) (hown : s.vm.findClass RL = some m.cls) (hts : ∀ w ∈ wsL_law, w.before args s = true) (hK : kK E s) (hZ : Zx E (fun q => s.heap.size ≤ q) s s.heap) (hX : va_X b L xs s s.heap) (hbl : b < s.heap.size) (hl9 : l.stackTraces = false) (hi : i + 4 < L) (hL : L ≤ 2560) (hv : VY σ) (hS : va_S (fun q => s.heap.size ≤ q) s.heap H locs) (hI : LI E s.heap.size x0 m0 qo σ σ th f H) (hl : lv_has ls 9 [(4, .int (nI i)), (3, .ref qo), (2, .ref m0), (1, .ref x0), (0, .ref b)]) (hfC : cells + 5 ≤ room_1.cells) (hfS : slots + 68 ≤ room_1.slots) (kk : ∀ (H1 : Heap) (locs1 : List Loc) (σ1 : Sg) (th1 : Int32) (f1 : Nat → Int64) (ls1 : Array Slot), VY σ1 → LI E s.heap.size x0 m0 qo σ1 σ1 th1 f1 H1 → va_S (fun q => s.heap.size ≤ q) s.heap H1 locs1 → lv_has ls1 9 [(4, .int (nI i)), (3, .ref qo), (2, .ref m0), (1, .ref x0), (0, .ref b)] → W p l e room_1 s m args below meth c H1 locs1 (cells + 5) (slots + 68) Q (F0 m 1176 ls1 [])) : W p l e room_1 s m args below meth c H locs cells slots Q (F0 m 1065 ls []) := by
  obtain ⟨o, ho⟩ : ∃ o, o = oSc σ (xs (i + 1)) := ⟨_, rfl⟩
  have hY : VY o.2.2 := by rw [ho]; exact Y_scares hv (xs (i + 1))
  refine lv_aload_n hx hb dL_law_1065 rfl (lv_at hl 3 rfl) ?_
  refine l_sc hx hb hX hbl hL hS hl (j0 := 4) (j4 := 0) rfl rfl 1 (by omega) dL_law_1066 dL_law_1067 (fun Hp rs h => lv_iconst (v := nI 1) hx hb dL_law_1069 (by decide) h) dL_law_1070 dL_law_1071 ?_
  refine lv_aload_n hx hb dL_law_1072 rfl (lv_at hl 1 rfl) ?_
  refine l_w 3 [.int (xs (i + 1))] [] hx hb hml hown hts hK hZ (o := o) (fun A g M fo hC hq => by rw [ho]; exact W_scares l hl9 E A g M σ hv.1 hC.1 hC.2.1 hC.2.2 hv.2 (xs (i + 1)) qo hq fo) gL_law_L_scares rfl (by decide +kernel) rfl ⟨Nat.le_of_ble_eq_true rfl, Nat.le_of_ble_eq_true rfl⟩ hl.1 (Nat.le_of_ble_eq_true rfl) ⟨by omega, by omega⟩ rfl dL_law_1073 hS hI (fun H locs f1 hI hf1 hS => ?_)
  refine W.eq (g2 := F0 m 1076 ls [.int o.1]) rfl ?_
  refine lv_istore (lv' := [(5, .int o.1), (4, .int (nI i)), (3, .ref qo), (2, .ref m0), (1, .ref x0), (0, .ref b)]) hx hb dL_law_1076 hl (by decide) rfl (fun ls hl => ?_)
  refine lv_aload_n hx hb dL_law_1078 rfl (lv_at hl 3 rfl) ?_
  refine l_sc hx hb hX hbl hL hS hl (j0 := 5) (j4 := 1) rfl rfl 1 (by omega) dL_law_1079 dL_law_1080 (fun Hp rs h => lv_iconst (v := nI 1) hx hb dL_law_1082 (by decide) h) dL_law_1083 dL_law_1084 ?_
  refine l_m 1 [.int (xs (i + 1))] [] hx hb hml hown hts hK (o := o) (fun A g M hW => by rw [ho]; exact R_scares l E A g M σ th hv.1 hW (xs (i + 1))) gL_law_X5_scares rfl (by decide +kernel) rfl ⟨Nat.le_of_ble_eq_true rfl, Nat.le_of_ble_eq_true rfl⟩ hl.1 (Nat.le_of_ble_eq_true rfl) ⟨by omega, by omega⟩ rfl dL_law_1085 hS hI (fun H locs hI hS => ?_)
  refine W.eq (g2 := F0 m 1088 ls [.int o.2.1]) rfl ?_
  refine lv_istore (lv' := [(6, .int o.2.1), (5, .int o.1), (4, .int (nI i)), (3, .ref qo), (2, .ref m0), (1, .ref x0), (0, .ref b)]) hx hb dL_law_1088 hl (by decide) rfl (fun ls hl => ?_)
  refine lv_aload_n hx hb dL_law_1090 rfl (lv_at hl 4 rfl) ?_
  refine l_th [] hx hb hml hown hts hK gL_law_X5_thrown ⟨Nat.le_of_ble_eq_true rfl, Nat.le_of_ble_eq_true rfl⟩ hl.1 (Nat.le_of_ble_eq_true rfl) ⟨by omega, by omega⟩ dL_law_1091 hS hI ?_
  refine W.eq (g2 := F0 m 1094 ls [.int o.1]) rfl ?_
  refine lv_iload hx hb dL_law_1094 (lv_at hl 1 rfl) ?_
  refine lv_icmp_eq (tgt := 1101) hx hb dL_law_1096 (by decide) (fun _ => ?_) (fun h => absurd rfl h)
  refine lv_iload hx hb dL_law_1101 (lv_at hl 1 rfl) ?_
  refine lv_if_ne (tgt := 1118) hx hb dL_law_1103 (by decide) (fun c1 => ?_) (fun c1 => ?_)
  · refine lv_goto (tgt := 1176) hx hb dL_law_1118 (by decide) ?_
    exact kk H locs _ _ _ ls hY hI hS (lv_sub hl [2, 3, 4, 5, 6] rfl)
  · refine lv_aload_n hx hb dL_law_1106 rfl (lv_at hl 3 rfl) ?_
    refine lv_iconst (v := 0) hx hb dL_law_1107 (by decide) ?_
    refine o_lald hx hb hK hI.out dL_law_1108 ?_
    refine lv_iload hx hb dL_law_1109 (lv_at hl 0 rfl) ?_
    refine lv_i2l hx hb dL_law_1111 rfl ?_
    refine lv_lcmpE hx hb (hf1 c1) dL_law_1112 ?_
    refine lv_if_eq (tgt := 1118) hx hb dL_law_1113 (by decide) (fun _ => ?_) (fun h => absurd rfl h)
    refine lv_goto (tgt := 1176) hx hb dL_law_1118 (by decide) ?_
    exact kk H locs _ _ _ ls hY hI hS (lv_sub hl [2, 3, 4, 5, 6] rfl)
set_option maxHeartbeats 4000000 in
set_option maxRecDepth 100000 in
theorem b_night (hx : p.tables.exec = Jvm.exec) (hb : c.code = cL_law) (hml : c.maxLocals = 9) (hown : s.vm.findClass RL = some m.cls) (hts : ∀ w ∈ wsL_law, w.before args s = true) (hK : kK E s) (hZ : Zx E (fun q => s.heap.size ≤ q) s s.heap) (hX : va_X b L xs s s.heap) (hbl : b < s.heap.size) (hl9 : l.stackTraces = false) (hi : i + 4 < L) (hL : L ≤ 2560) (hv : VY σ) (hS : va_S (fun q => s.heap.size ≤ q) s.heap H locs) (hI : LI E s.heap.size x0 m0 qo σ σ th f H) (hl : lv_has ls 9 [(4, .int (nI i)), (3, .ref qo), (2, .ref m0), (1, .ref x0), (0, .ref b)]) (hfC : cells + 5 ≤ room_1.cells) (hfS : slots + 68 ≤ room_1.slots) (kk : ∀ (H1 : Heap) (locs1 : List Loc) (σ1 : Sg) (th1 : Int32) (f1 : Nat → Int64) (ls1 : Array Slot), VY σ1 → LI E s.heap.size x0 m0 qo σ1 σ1 th1 f1 H1 → va_S (fun q => s.heap.size ≤ q) s.heap H1 locs1 → lv_has ls1 9 [(4, .int (nI i)), (3, .ref qo), (2, .ref m0), (1, .ref x0), (0, .ref b)] → W p l e room_1 s m args below meth c H1 locs1 (cells + 5) (slots + 68) Q (F0 m 1176 ls1 [])) : W p l e room_1 s m args below meth c H locs cells slots Q (F0 m 927 ls []) := by
  refine lv_aload_n hx hb dL_law_927 rfl (lv_at hl 3 rfl) ?_
  refine l_c0 [] (σ' := ngS σ) hx hb hml hown hts hK (fun A g M hC => c_nightOk l E A g M σ hv.1 hC.1 hC.2.1 hC.2.2) gL_law_X4_night rfl rfl rfl (by decide +kernel) ⟨Nat.le_of_ble_eq_true rfl, Nat.le_of_ble_eq_true rfl⟩ hl.1 (Nat.le_of_ble_eq_true rfl) ⟨by omega, by omega⟩ dL_law_928 hS hI (fun H locs hI hS => ?_)
  refine W.eq (g2 := F0 m 931 ls [.int (sH (ngS σ))]) rfl ?_
  refine lv_aload_n hx hb dL_law_931 rfl (lv_at hl 2 rfl) ?_
  refine l_m0 [.int (sH (ngS σ))] (σ' := mnS σ) hx hb hml hown hts hK (fun A g M hW => m_night l E A g M σ th hv.1 hW) gL_law_X5_night rfl rfl rfl (by decide +kernel) ⟨Nat.le_of_ble_eq_true rfl, Nat.le_of_ble_eq_true rfl⟩ hl.1 (Nat.le_of_ble_eq_true rfl) ⟨by omega, by omega⟩ dL_law_932 hS hI (fun H locs hI hS => ?_)
  refine W.eq (g2 := F0 m 935 ls [.int (sH (mnS σ)), .int (sH (ngS σ))]) rfl ?_
  rw [ng_eq hv.1] at hI ⊢
  refine lv_icmp_eq (tgt := 1176) hx hb dL_law_935 (by decide) (fun _ => ?_) (fun h => absurd rfl h)
  refine W.widen (Nat.le_add_right cells 5) (Nat.le_add_right slots 68) ?_
  exact kk H locs _ _ _ ls ⟨VS.ng_ok hv.1, VX.ng_ok hv.2⟩ hI hS (lv_sub hl [0, 1, 2, 3, 4] rfl)
set_option maxHeartbeats 4000000 in
set_option maxRecDepth 100000 in
theorem b_most (hx : p.tables.exec = Jvm.exec) (hb : c.code = cL_law) (hml : c.maxLocals = 9) (hown : s.vm.findClass RL = some m.cls) (hts : ∀ w ∈ wsL_law, w.before args s = true) (hK : kK E s) (hZ : Zx E (fun q => s.heap.size ≤ q) s s.heap) (hX : va_X b L xs s s.heap) (hbl : b < s.heap.size) (hl9 : l.stackTraces = false) (hi : i + 4 < L) (hL : L ≤ 2560) (hv : VY σ) (hS : va_S (fun q => s.heap.size ≤ q) s.heap H locs) (hI : LI E s.heap.size x0 m0 qo σ σ th f H) (hl : lv_has ls 9 [(4, .int (nI i)), (3, .ref qo), (2, .ref m0), (1, .ref x0), (0, .ref b)]) (hfC : cells + 5 ≤ room_1.cells) (hfS : slots + 68 ≤ room_1.slots) (hmost : (mgS σ (kU σ)).1 = mdM σ (kU σ)) (kk : ∀ (H1 : Heap) (locs1 : List Loc) (σ1 : Sg) (th1 : Int32) (f1 : Nat → Int64) (ls1 : Array Slot), VY σ1 → LI E s.heap.size x0 m0 qo σ1 σ1 th1 f1 H1 → va_S (fun q => s.heap.size ≤ q) s.heap H1 locs1 → lv_has ls1 9 [(4, .int (nI i)), (3, .ref qo), (2, .ref m0), (1, .ref x0), (0, .ref b)] → W p l e room_1 s m args below meth c H1 locs1 (cells + 5) (slots + 68) Q (F0 m 1176 ls1 [])) : W p l e room_1 s m args below meth c H locs cells slots Q (F0 m 1052 ls []) := by
  refine lv_aload_n hx hb dL_law_1052 rfl (lv_at hl 3 rfl) ?_
  refine l_c0 [] (σ' := σ) hx hb hml hown hts hK (fun A g M hC => c_most l E A g M σ hv.1 hC.1 hC.2.1 hC.2.2) gL_law_X4_most rfl rfl rfl (by decide +kernel) ⟨Nat.le_of_ble_eq_true rfl, Nat.le_of_ble_eq_true rfl⟩ hl.1 (Nat.le_of_ble_eq_true rfl) ⟨by omega, by omega⟩ dL_law_1053 hS hI (fun H locs hI hS => ?_)
  refine W.eq (g2 := F0 m 1056 ls [.int (mgS σ (kU σ)).1]) rfl ?_
  refine lv_aload_n hx hb dL_law_1056 rfl (lv_at hl 2 rfl) ?_
  refine l_m0 [.int (mgS σ (kU σ)).1] (σ' := σ) hx hb hml hown hts hK (fun A g M hW => m_most l E A g M σ th hv.1 hW) gL_law_X5_most rfl rfl rfl (by decide +kernel) ⟨Nat.le_of_ble_eq_true rfl, Nat.le_of_ble_eq_true rfl⟩ hl.1 (Nat.le_of_ble_eq_true rfl) ⟨by omega, by omega⟩ dL_law_1057 hS hI (fun H locs hI hS => ?_)
  refine W.eq (g2 := F0 m 1060 ls [.int (mdM σ (kU σ)), .int (mgS σ (kU σ)).1]) rfl ?_
  refine lv_icmp_eq (tgt := 1176) hx hb dL_law_1060 (by decide) (fun _ => ?_) (fun h => absurd hmost h)
  refine W.widen (Nat.le_add_right cells 5) (Nat.le_add_right slots 68) ?_
  exact kk H locs _ _ _ ls hv hI hS (lv_sub hl [0, 1, 2, 3, 4] rfl)
set_option maxHeartbeats 4000000 in
set_option maxRecDepth 100000 in
theorem b_digest (hx : p.tables.exec = Jvm.exec) (hb : c.code = cL_law) (hml : c.maxLocals = 9) (hown : s.vm.findClass RL = some m.cls) (hts : ∀ w ∈ wsL_law, w.before args s = true) (hK : kK E s) (hZ : Zx E (fun q => s.heap.size ≤ q) s s.heap) (hX : va_X b L xs s s.heap) (hbl : b < s.heap.size) (hl9 : l.stackTraces = false) (hi : i + 4 < L) (hL : L ≤ 2560) (hv : VY σ) (hS : va_S (fun q => s.heap.size ≤ q) s.heap H locs) (hI : LI E s.heap.size x0 m0 qo σ σ th f H) (hl : lv_has ls 9 [(4, .int (nI i)), (3, .ref qo), (2, .ref m0), (1, .ref x0), (0, .ref b)]) (hfC : cells + 5 ≤ room_1.cells) (hfS : slots + 68 ≤ room_1.slots) (kk : ∀ (H1 : Heap) (locs1 : List Loc) (σ1 : Sg) (th1 : Int32) (f1 : Nat → Int64) (ls1 : Array Slot), VY σ1 → LI E s.heap.size x0 m0 qo σ1 σ1 th1 f1 H1 → va_S (fun q => s.heap.size ≤ q) s.heap H1 locs1 → lv_has ls1 9 [(4, .int (nI i)), (3, .ref qo), (2, .ref m0), (1, .ref x0), (0, .ref b)] → W p l e room_1 s m args below meth c H1 locs1 (cells + 5) (slots + 68) Q (F0 m 1176 ls1 [])) : W p l e room_1 s m args below meth c H locs cells slots Q (F0 m 1162 ls []) := by
  refine lv_aload_n hx hb dL_law_1162 rfl (lv_at hl 3 rfl) ?_
  refine l_cr [] hx hb hml hown hts hK (fun A g M hC => c_digest l E A g M σ hv.1 hC.1 hC.2.1) gL_law_X4_digest rfl rfl rfl (by decide +kernel) ⟨Nat.le_of_ble_eq_true rfl, Nat.le_of_ble_eq_true rfl⟩ hl.1 (Nat.le_of_ble_eq_true rfl) ⟨by omega, by omega⟩ dL_law_1163 hS hI ?_
  refine W.eq (g2 := F0 m 1166 ls [.long (dGu σ (kU σ))]) rfl ?_
  refine lv_aload_n hx hb dL_law_1166 rfl (lv_at hl 2 rfl) ?_
  refine l_m0 [.long (dGu σ (kU σ))] (σ' := σ) hx hb hml hown hts hK (fun A g M hW => m_digest l E A g M σ th hv.1 hW) gL_law_X5_digest rfl rfl rfl (by decide +kernel) ⟨Nat.le_of_ble_eq_true rfl, Nat.le_of_ble_eq_true rfl⟩ hl.1 (Nat.le_of_ble_eq_true rfl) ⟨by omega, by omega⟩ dL_law_1167 hS hI (fun H locs hI hS => ?_)
  refine W.eq (g2 := F0 m 1170 ls [.long (dGu σ (kU σ)), .long (dGu σ (kU σ))]) rfl ?_
  refine lv_lcmpE hx hb rfl dL_law_1170 ?_
  refine lv_if_eq (tgt := 1176) hx hb dL_law_1171 (by decide) (fun _ => ?_) (fun h => absurd rfl h)
  refine W.widen (Nat.le_add_right cells 5) (Nat.le_add_right slots 68) ?_
  exact kk H locs _ _ _ ls hv hI hS (lv_sub hl [0, 1, 2, 3, 4] rfl)
set_option maxHeartbeats 4000000 in
set_option maxRecDepth 100000 in
theorem b_mean (hx : p.tables.exec = Jvm.exec) (hb : c.code = cL_law) (hml : c.maxLocals = 9) (hown : s.vm.findClass RL = some m.cls) {d0 : Drawn} (hd0 : s.drawn.sameBut d0 lw_cs) (hts : ∀ w ∈ wsL_law, w.before args s = true) (hK : kK E s) (hX : va_X b L xs s s.heap) (hbl : b < s.heap.size) (hl9 : l.stackTraces = false) (hi : i + 4 < L) (hL : L ≤ 2560) (hv : VY σ) (hS : va_S (fun q => s.heap.size ≤ q) s.heap H locs) (hI : LI E s.heap.size x0 m0 qo σ σ th f H) (hl : lv_has ls 9 [(4, .int (nI i)), (3, .ref qo), (2, .ref m0), (1, .ref x0), (0, .ref b)]) (hfC : cells + 5 ≤ room_1.cells) (hfS : slots + 68 ≤ room_1.slots) (kk : ∀ (H1 : Heap) (locs1 : List Loc) (σ1 : Sg) (th1 : Int32) (f1 : Nat → Int64) (ls1 : Array Slot) (d1 : Drawn) (_ : s.drawn.sameBut d1 lw_cs), VY σ1 → LI E s.heap.size x0 m0 qo σ1 σ1 th1 f1 H1 → va_S (fun q => s.heap.size ≤ q) s.heap H1 locs1 → lv_has ls1 9 [(4, .int (nI i)), (3, .ref qo), (2, .ref m0), (1, .ref x0), (0, .ref b)] → W p l e room_1 (s.setDrawn d1) m args below meth c H1 locs1 (cells + 5) (slots + 68) Q (F0 m 1176 ls1 [])) : W p l e room_1 (s.setDrawn d0) m args below meth c H locs cells slots Q (F0 m 1121 ls []) := by
  refine lv_aload_n hx hb dL_law_1121 rfl (lv_at hl 3 rfl) ?_
  refine l_dc hd0 [] hx hb hml hown (dr_words hts _) hK (fun A g M hC => c_mean l E A g M σ hv.1 hC.1 hC.2.1) gL_law_X4_mean rfl rfl rfl (by decide +kernel) ⟨Nat.le_of_ble_eq_true rfl, Nat.le_of_ble_eq_true rfl⟩ hl.1 (Nat.le_of_ble_eq_true rfl) ⟨by omega, by omega⟩ dL_law_1122 hS hI (fun r1 H locs hr1 hI hS d0 hd0 => ?_)
  refine W.eq (g2 := F0 m 1125 ls [.double r1]) rfl ?_
  refine lv_dstore (lv' := [(5, .double r1), (4, .int (nI i)), (3, .ref qo), (2, .ref m0), (1, .ref x0), (0, .ref b)]) hx hb dL_law_1125 hl (by decide) rfl (fun ls hl => ?_)
  refine lv_aload_n hx hb dL_law_1127 rfl (lv_at hl 3 rfl) ?_
  refine l_dm hd0 [] hx hb hml hown (dr_words hts _) hK (fun A g M hC => m_mean l E A g M σ th hv.1 hC) gL_law_X5_mean rfl rfl rfl (by decide +kernel) ⟨Nat.le_of_ble_eq_true rfl, Nat.le_of_ble_eq_true rfl⟩ hl.1 (Nat.le_of_ble_eq_true rfl) ⟨by omega, by omega⟩ dL_law_1128 hS hI (fun r2 H locs hr2 hI hS d0 hd0 => ?_)
  refine W.eq (g2 := F0 m 1131 ls [.double r2]) rfl ?_
  refine lv_dstore (lv' := [(7, .double r2), (5, .double r1), (4, .int (nI i)), (3, .ref qo), (2, .ref m0), (1, .ref x0), (0, .ref b)]) hx hb dL_law_1131 hl (by decide) rfl (fun ls hl => ?_)
  refine lv_dload hx hb dL_law_1133 (lv_at hl 1 rfl) ?_
  refine lv_dload hx hb dL_law_1135 (lv_at hl 0 rfl) ?_
  refine lv_dcmp hx hb dL_law_1137 ?_
  have hc9 := mean_cmp hr1 hr2
  refine lv_if_eq (tgt := 1159) hx hb dL_law_1138 (by decide) (fun c1 => ?_) (fun c1 => ?_)
  · refine lv_goto (tgt := 1176) hx hb dL_law_1159 (by decide) ?_
    refine W.widen (Nat.le_add_right cells 5) (Nat.le_add_right slots 68) ?_
    exact kk H locs _ _ _ ls d0 hd0 hv hI hS (lv_sub hl [2, 3, 4, 5, 6] rfl)
  · obtain ⟨c2, c3⟩ := hc9.resolve_left c1
    refine lv_dload hx hb dL_law_1141 (lv_at hl 1 rfl) ?_
    refine lv_dload hx hb dL_law_1143 (lv_at hl 1 rfl) ?_
    refine lv_dcmp hx hb dL_law_1145 ?_
    refine lv_if_eq (tgt := 1157) hx hb dL_law_1146 (by decide) (fun c4 => absurd c4 c2) (fun _ => ?_)
    refine lv_dload hx hb dL_law_1149 (lv_at hl 0 rfl) ?_
    refine lv_dload hx hb dL_law_1151 (lv_at hl 0 rfl) ?_
    refine lv_dcmp hx hb dL_law_1153 ?_
    refine lv_if_ne (tgt := 1159) hx hb dL_law_1154 (by decide) (fun _ => ?_) (fun c4 => absurd c4 c3)
    refine lv_goto (tgt := 1176) hx hb dL_law_1159 (by decide) ?_
    refine W.widen (Nat.le_add_right cells 5) (Nat.le_add_right slots 68) ?_
    exact kk H locs _ _ _ ls d0 hd0 hv hI hS (lv_sub hl [2, 3, 4, 5, 6] rfl)
end LB
