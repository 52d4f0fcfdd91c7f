/-! THE LAW'S CALLS OF THE CLASS -/
/-- the law's row of one long -/
def oC (E : gE) (qo : Nat) (f : Nat → Int64) (H : Heap) : Prop := H[qo]? = some (vp_cell E.2.2.1 (1, .inr (.inl f)))
theorem oC.lt {E : gE} {qo : Nat} {f : Nat → Int64} {H : Heap} (h : oC E qo f H) : qo < H.size := (Array.getElem?_eq_some_iff.mp h).1
theorem mP.up {E : gE} {A B : Nat → Prop} {g : Nat → Nat} {M : gM} {H : Heap} (h : mP E A g M H) (hAB : ∀ q, A q → B q) : mP E B g M H := ⟨fun t e ht => ⟨(h.1 t e ht).1, hAB _ (h.1 t e ht).2⟩, h.2⟩
theorem mP.lt {E : gE} {A : Nat → Prop} {g : Nat → Nat} {M : gM} {H : Heap} {t : Nat} {e : va_E} (h : mP E A g M H) (ht : M t = some e) : g t < H.size := (h.1 t e ht).1.lt
/-- what such a call leaves: its code, the world, the answer in the row -/
def QO (E : gE) (g : Nat → Nat) (qo : Nat) (A : Nat → Prop) (o : Int32 × Int32 × Sg) : Array Value → State → Outcome → State → Prop :=
  QW (some (.int o.1)) (fun H => ∃ (g' : Nat → Nat) (M' : gM), g' 0 = g 0 ∧ mP E A g' M' H ∧ CX E g' M' o.2.2 ∧ ∃ f', oC E qo f' H ∧ (o.1 = 0 → f' 0 = o.2.1.toInt64)) (fun q => A q ∨ q = qo)
def PO (E : gE) (A : Nat → Prop) (g : Nat → Nat) (M : gM) (qo : Nat) (fo : Nat → Int64) (H : Heap) : Prop := mP E A g M H ∧ (∀ q : Nat, H.size ≤ q → A q) ∧ oC E qo fo H
section
variable {p : Program} {l : Launch} {e : Env} {R : Room} {s : State} {m : MethodId} {args : Array Value} {below : List Frame} {meth : Method} {c : Code} {H : Heap} {locs : List Loc} {cells slots : Nat} {Q : State → Prop}
variable {cc bytes : ByteArray} {pc : Nat} {ls : Array Slot} {rest : List Value} {E : gE} {A A1 : Nat → Prop} {g : Nat → Nat} {M : gM} {H0 : Heap} {t : Nat} {Ts ws ws' : List Cond} {nL maxL index mc ms : Nat} {own : String} {y : MethodName} {ret : Option FieldType} {rm : Room} {P : Heap → Prop}
theorem o_last {qo : Nat} {f : Nat → Int64} {x : Int64} (hexec : p.tables.exec = Jvm.exec) (hb : c.code = cc) (hK : kK E s) (ho : oC E qo f H) (hA : A qo) (hS : va_S A H0 H locs) (hdg : decode cc pc = .ok (.lastore, 1))
    (kk : ∀ (H1 : Heap) (locs1 : List Loc) (f1 : Nat → Int64), oC E qo f1 H1 → f1 0 = x → H1.size = H.size → (∀ q, q ≠ qo → H1[q]? = H[q]?) → va_S A H0 H1 locs1 → W p l e R s m args below meth c H1 locs1 cells slots Q (F0 m (pc + 1) ls rest)) : W p l e R s m args below meth c H locs cells slots Q (F0 m pc ls (.long x :: .int 0 :: .ref qo :: rest)) := by
  refine W.last hexec hb (show H[qo]? = some (vp_cell E.2.2.1 (1, .inr (.inl f))) from ho) ((hK.2 1 _ rfl).1 1 (fun j => .long (f j))) (fun q => by cases q) (by intro q; rcases q with q | q; exact absurd q (by decide); exact absurd (show (arrV E.2.2.1 _ _).slots.size ≤ _ from q) (by rw [arrV_size]; exact (by decide : ¬ ((1 : Nat) ≤ (0 : Int32).toNatClampNeg)))) rfl rfl hdg fun H1 e z oq => ?_
  refine kk H1 _ (vp_updL f 0 x) ?_ (if_pos rfl) z oq (hS.put z oq hA)
  show H1[qo]? = some (vp_cell _ _)
  rw [e]
  rw [vp_cell_l, vp_cell_l, arrV_store]
  congr 2
  funext q
  by_cases hq : q = (0 : Int32).toNatClampNeg
  · subst hq
    simp [updV, vp_updL]
  · have hq0 : q ≠ 0 := hq
    simp [updV, vp_updL, hq0]
/-- a call that throws -/
theorem m_xV (n : Nat) {b : Addr} {C X9 : String} {T : u_T} {N : Nat} {fs : List Value} {ci : Nat} (As rest : List Value) (hx : p.tables.exec = Jvm.exec) (hb : c.code = cc) (hml : c.maxLocals = nL) (hown : s.vm.findClass own = some m.cls) (hts : ∀ w ∈ Ts, w.before args s = true) (hK : kK E s) (hM : vx_Met l y ws rm (Pz E A1 (.ref b :: As) P) (fun _ _ _ _ => False) (XE X9) mc ms (fun _ => False)) (hG : GoodIn Ts (wsV own index C y ws)) (hw : ws = Cond.code y bytes maxL ret :: ws') (hrc : rm.cells = mc) (hrs : rm.slots = ms)
    (hd : y.cls = C ∧ y.cls ≠ "java/lang/invoke/MethodHandle" ∧ y.cls ≠ "java/lang/invoke/VarHandle" ∧ (parseMethodDescriptor y.desc).map (fun d => d.parameters.length) = some n) (hn : As.length = n) (hR : rm.frames + 1 ≤ R.frames ∧ 8 + (maxL + 11) + rm.locals ≤ R.locals) (hMm : mP E A1 g M H) (ht : M t = some (.inr (ci, fs))) (hc : vwCl[ci]? = some (C, T, N)) (hbt : g t = b) (hP : P H) (hsz : ls.size = nL) (hcat : (rest.map fun v => v.category).sum ≤ 8) (hf : cells + mc ≤ R.cells ∧ slots + ms ≤ R.slots) {st0 : List Value} (hst : st0 = As.reverse ++ .ref b :: rest) (hdg : decode cc pc = .ok (.invokevirtual index, 3)) (hZ : Zx E A s s.heap) (hN : ∀ q, A1 q → A q) (hS : va_S A s.heap H locs)
    (kx : ∀ (ce : Cell) (q9 : Addr) (H1 : Heap) (locs1 : List Loc), H.size ≤ H1.size → (∀ q : Nat, q < H.size → H1[q]? = H[q]?) → va_S A s.heap H1 locs1 → H1[q9]? = some ce → ce.vm = .none → s.vm.findClass X9 = some ce.cls → vx_W p l e R s m args below meth c H1 locs1 (cells + mc) (slots + ms) Q (F0 m pc ls rest) q9) : W p l e R s m args below meth c H locs cells slots Q (F0 m pc ls st0) := by
  subst hst
  have hr := m_recv hK hMm ht hc
  rw [hbt] at hr
  have run := vx_runV (e := e) (meth := meth) (below := below) (As := As) (rest := rest) (locs := locs) (cells := cells) (slots := slots) (g := F0 m pc ls (As.reverse ++ .ref b :: rest)) ⟨hx, hb, hml, hown, hts⟩ hM (cwV n hts hG hw hrc hrs hd hR) (Pz.preV hK hZ hS hN hP hr) rfl hn hsz rfl (lv_room hcat) hdg hf
  intro T hT X
  rcases run T hT X with ⟨v, st₀, t, T', L, h0, X', hL, e1, e2, hq, st⟩ | ⟨q, st₀, t, T', L, E9, ce, h0, X', hL, e1, e2, ⟨rfl, hF⟩, hce, hcv, hcl, st⟩
  · exact hq.elim
  · obtain ⟨k1, k2, k3⟩ := vx_keep (A1 := fun _ => False) (free := fun _ => False) h0 e1 hS (fun _ _ h => False.elim h) (fun _ h => False.elim h) hL hF
    obtain ⟨t2, a1, b1⟩ := kx ce q T'.heap (locs ++ L) k1 (fun q h => k2 q h (fun h => h)) k3 (by rw [e1]; exact hce) hcv hcl T' rfl X'
    exact ⟨t2, st.trans a1, b1⟩
end
theorem e_entry {l : Launch} {E : gE} {A : Nat → Prop} {av : List Value} {P : Heap → Prop} {y : MethodName} {ws ws' : List Cond} {rm : Room} {Qc : Array Value → State → Outcome → State → Prop} {mc ms : Nat} {free : Addr → Prop} {cc : ByteArray} {maxL : Nat} {ret : Option FieldType} {hh : List (Nat × Nat × Nat × Nat)}
    (hy : plainName y.cls = true) (hw : ws = Cond.codeWith y cc maxL ret hh :: ws') (hn : (lg_sl av).length ≤ maxL)
    (body : ∀ (p : Program) (e : Env) (s : State) (m : MethodId) (args : Array Value) (below : List Frame) (meth : Method) (c : Code), p.tables.exec = Jvm.exec → c.code = cc → meth.sig.returnType = ret → c.maxLocals = maxL → (∀ w ∈ ws, w.before args s = true) → s.vm.findClass y.cls = some m.cls → meth.locks = false → meth.name = y.name →
      P s.heap → kK E s → Zx E A s s.heap → c.exceptionTable.toList = tableOf hh → ∀ ls : Array Slot, lv_has ls maxL (lv_args 0 av) → W p l e rm s m args below meth c s.heap [] 0 0 (MQ below Qc args s mc ms free) (F0 m 0 ls [])) : Met l y ws rm (Pz E A av P) Qc mc ms free := by
  refine va_MetW (cc := cc) (maxL := maxL) (ret := ret) (hh := hh) hy hw ?_
  intro p e s m args below meth c s₁ B hml hv
  obtain ⟨rfl, hP, hK, hZ⟩ := hv
  have hl := lv_entry av (n := maxL) hn
  have hts := atoms_spec (ws := ws) B.pre
  have htab := vx_table (x := y) B (hts _ (by rw [hw]; exact List.mem_cons_self))
  rw [lg_entry_eq]
  exact body p e s m av.toArray below meth c B.exec B.bytes B.returns hml hts (findClass_of_methodNamed B.named) B.notSynchronized (name_of_methodNamed B.named B.method).1 hP hK hZ htab _ hl
set_option maxHeartbeats 4000000 in
set_option maxRecDepth 100000 in
theorem w_furnish1 (l : Launch) (hl9 : l.stackTraces = false) (E : gE) (A : Nat → Prop) (g : Nat → Nat) (M : gM) (σ : Sg) (hv : VS σ) (hw : CW E g M σ) (hp : PW E M σ) (hd : CD M σ) (xb xc xq : Int32) (hbad : ¬ ((1 ≤ xb ∧ xb ≤ 6) ∧ (0 ≤ xc ∧ xc ≤ 9) ∧ (0 ≤ xq ∧ xq ≤ 100))) (qo : Nat) (hqo : ¬ A qo) (fo : Nat → Int64) : Met l yL_furnish wsL_furnish ({ frames := 30, cells := 4, slots := 60, locals := 1500 } : Room) (Pz E (fun q => A q ∨ q = qo) [.ref (g 0), .int xb, .int xc, .int xq, .ref qo] (PO E A g M qo fo)) (QO E g qo A (1, 0, σ)) 4 60 (fun q => A q ∨ q = qo) := by
  refine e_entry (by decide) rfl (Nat.le_of_ble_eq_true rfl) ?_
  intro p e s m args below meth c hx hb hr hml hts hown hlocks hin hP hK hZ htab ls hl
  obtain ⟨hM, hA, hO⟩ := hP
  have hl : lv_has ls 6 [(0, .ref (g 0)), (1, .int xb), (2, .int xc), (3, .int xq), (4, .ref qo)] := hl
  have hown : s.vm.findClass RL = some m.cls := hown
  have hS : va_S (fun q => A q ∨ q = qo) s.heap s.heap [] := va_S.rf
  have hM0 := hM.up (B := fun q => A q ∨ q = qo) (fun _ h => Or.inl h)
  refine lv_aload hx hb dL_furnish_0 (lv_at hl 4 rfl) ?_
  refine lv_iconst (v := 0) hx hb dL_furnish_2 (by decide) ?_
  refine lv_aload_n hx hb dL_furnish_3 rfl (lv_at hl 0 rfl) ?_
  refine lv_iload_n hx hb dL_furnish_4 rfl (lv_at hl 1 rfl) ?_
  refine lv_iload_n hx hb dL_furnish_5 rfl (lv_at hl 2 rfl) ?_
  refine lv_iload_n hx hb dL_furnish_6 rfl (lv_at hl 3 rfl) ?_
  refine m_xV 3 [.int xb, .int xc, .int xq] [.int 0, .ref qo] hx hb hml hown hts hK (x_furnish1 l hl9 E A g M σ hv hw xb xc xq hbad) gL_furnish_X4_furnish rfl rfl rfl (by decide +kernel) rfl ⟨Nat.le_of_ble_eq_true rfl, Nat.le_of_ble_eq_true rfl⟩ hM (CW.x hw) rfl rfl (by exact hM) hl.1 (Nat.le_of_ble_eq_true rfl) ⟨Nat.le_of_ble_eq_true rfl, Nat.le_of_ble_eq_true rfl⟩ rfl dL_furnish_7 hZ (fun _ h => Or.inl h) hS (fun ce q9 H locs hz9 hk9 hS hce hcv hcl => ?_)
  refine vx_catch (own := RL) (name := "java/lang/IllegalArgumentException") hown [] ⟨0, 12, 15, 13⟩ [⟨0, 12, 19, 15⟩] (by rw [htab]; rfl) (fun z hz => nomatch hz) (by decide) (by decide) (hts (.classLink RL 13 "java/lang/IllegalArgumentException") (by decide +kernel)) (va_Nw.use rfl (hZ.castE (by simp))) hce hcv hcl ?_
  refine W.eq (g2 := F0 m 15 ls [.ref q9]) rfl ?_
  refine lv_astore (lv' := [(5, .ref q9), (0, .ref (g 0)), (1, .int xb), (2, .int xc), (3, .int xq), (4, .ref qo)]) hx hb dL_furnish_15 hl (by decide) rfl (fun ls hl => ?_)
  refine lv_iconst (v := 1) hx hb dL_furnish_17 (by decide) ?_
  exact w_i hx hb hr hlocks dL_furnish_18 hS (Nat.le_of_ble_eq_true rfl) (Nat.le_of_ble_eq_true rfl) rfl (⟨g, M, rfl, hM.kept (fun t e ht => hk9 _ (hM.lt ht)), ⟨hw, hp, hd⟩, fo, (hk9 _ hO.lt).trans hO, fun h => absurd (show (1 : Int32) = 0 from h) (by decide)⟩)
set_option maxHeartbeats 4000000 in
set_option maxRecDepth 100000 in
theorem w_furnish2 (l : Launch) (hl9 : l.stackTraces = false) (E : gE) (A : Nat → Prop) (g : Nat → Nat) (M : gM) (σ : Sg) (hv : VS σ) (hw : CW E g M σ) (hp : PW E M σ) (hd : CD M σ) (xb xc xq : Int32) (hok : ((1 ≤ xb ∧ xb ≤ 6) ∧ (0 ≤ xc ∧ xc ≤ 9) ∧ (0 ≤ xq ∧ xq ≤ 100))) (hfull : kR σ = 10) (qo : Nat) (hqo : ¬ A qo) (fo : Nat → Int64) : Met l yL_furnish wsL_furnish ({ frames := 30, cells := 4, slots := 60, locals := 1500 } : Room) (Pz E (fun q => A q ∨ q = qo) [.ref (g 0), .int xb, .int xc, .int xq, .ref qo] (PO E A g M qo fo)) (QO E g qo A (2, 0, σ)) 4 60 (fun q => A q ∨ q = qo) := by
  refine e_entry (by decide) rfl (Nat.le_of_ble_eq_true rfl) ?_
  intro p e s m args below meth c hx hb hr hml hts hown hlocks hin hP hK hZ htab ls hl
  obtain ⟨hM, hA, hO⟩ := hP
  have hl : lv_has ls 6 [(0, .ref (g 0)), (1, .int xb), (2, .int xc), (3, .int xq), (4, .ref qo)] := hl
  have hown : s.vm.findClass RL = some m.cls := hown
  have hS : va_S (fun q => A q ∨ q = qo) s.heap s.heap [] := va_S.rf
  have hM0 := hM.up (B := fun q => A q ∨ q = qo) (fun _ h => Or.inl h)
  refine lv_aload hx hb dL_furnish_0 (lv_at hl 4 rfl) ?_
  refine lv_iconst (v := 0) hx hb dL_furnish_2 (by decide) ?_
  refine lv_aload_n hx hb dL_furnish_3 rfl (lv_at hl 0 rfl) ?_
  refine lv_iload_n hx hb dL_furnish_4 rfl (lv_at hl 1 rfl) ?_
  refine lv_iload_n hx hb dL_furnish_5 rfl (lv_at hl 2 rfl) ?_
  refine lv_iload_n hx hb dL_furnish_6 rfl (lv_at hl 3 rfl) ?_
  refine m_xV 3 [.int xb, .int xc, .int xq] [.int 0, .ref qo] hx hb hml hown hts hK (x_furnish2 l hl9 E A g M σ hv hw xb xc xq hok hfull) gL_furnish_X4_furnish rfl rfl rfl (by decide +kernel) rfl ⟨Nat.le_of_ble_eq_true rfl, Nat.le_of_ble_eq_true rfl⟩ hM (CW.x hw) rfl rfl (by exact hM) hl.1 (Nat.le_of_ble_eq_true rfl) ⟨Nat.le_of_ble_eq_true rfl, Nat.le_of_ble_eq_true rfl⟩ rfl dL_furnish_7 hZ (fun _ h => Or.inl h) hS (fun ce q9 H locs hz9 hk9 hS hce hcv hcl => ?_)
  refine vx_catch (own := RL) (name := "java/lang/IllegalStateException") hown [⟨0, 12, 15, 13⟩] ⟨0, 12, 19, 15⟩ [] (by rw [htab]; rfl) (fun z hz => by simp only [List.mem_cons, List.not_mem_nil, or_false] at hz; rcases hz with rfl <;> first | exact Or.inr ⟨by decide, _, hts (.classLink RL 13 "java/lang/IllegalArgumentException") (by decide +kernel), hZ.1.2.2.2.2.2.1.1⟩) (by decide) (by decide) (hts (.classLink RL 15 "java/lang/IllegalStateException") (by decide +kernel)) (va_Nw.use rfl (hZ.castE (by simp))) hce hcv hcl ?_
  refine W.eq (g2 := F0 m 19 ls [.ref q9]) rfl ?_
  refine lv_astore (lv' := [(5, .ref q9), (0, .ref (g 0)), (1, .int xb), (2, .int xc), (3, .int xq), (4, .ref qo)]) hx hb dL_furnish_19 hl (by decide) rfl (fun ls hl => ?_)
  refine lv_iconst (v := 2) hx hb dL_furnish_21 (by decide) ?_
  exact w_i hx hb hr hlocks dL_furnish_22 hS (Nat.le_of_ble_eq_true rfl) (Nat.le_of_ble_eq_true rfl) rfl (⟨g, M, rfl, hM.kept (fun t e ht => hk9 _ (hM.lt ht)), ⟨hw, hp, hd⟩, fo, (hk9 _ hO.lt).trans hO, fun h => absurd (show (2 : Int32) = 0 from h) (by decide)⟩)
set_option maxHeartbeats 4000000 in
set_option maxRecDepth 100000 in
theorem w_furnishOk (l : Launch) (E : gE) (A : Nat → Prop) (g : Nat → Nat) (M : gM) (σ : Sg) (hv : VS σ) (hw : CW E g M σ) (hp : PW E M σ) (hd : CD M σ) (hX9 : VX σ) (xb xc xq : Int32) (hok : ((1 ≤ xb ∧ xb ≤ 6) ∧ (0 ≤ xc ∧ xc ≤ 9) ∧ (0 ≤ xq ∧ xq ≤ 100))) (hn : kR σ < 10) (qo : Nat) (hqo : ¬ A qo) (fo : Nat → Int64) : Met l yL_furnish wsL_furnish ({ frames := 30, cells := 4, slots := 60, locals := 1500 } : Room) (Pz E (fun q => A q ∨ q = qo) [.ref (g 0), .int xb, .int xc, .int xq, .ref qo] (PO E A g M qo fo)) (QO E g qo A (0, nI (kR σ), fuS σ xb xc xq)) 4 60 (fun q => A q ∨ q = qo) := by
  refine e_entry (by decide) rfl (Nat.le_of_ble_eq_true rfl) ?_
  intro p e s m args below meth c hx hb hr hml hts hown hlocks hin hP hK hZ htab ls hl
  obtain ⟨hM, hA, hO⟩ := hP
  have hl : lv_has ls 6 [(0, .ref (g 0)), (1, .int xb), (2, .int xc), (3, .int xq), (4, .ref qo)] := hl
  have hown : s.vm.findClass RL = some m.cls := hown
  have hS : va_S (fun q => A q ∨ q = qo) s.heap s.heap [] := va_S.rf
  have hM0 := hM.up (B := fun q => A q ∨ q = qo) (fun _ h => Or.inl h)
  refine lv_aload hx hb dL_furnish_0 (lv_at hl 4 rfl) ?_
  refine lv_iconst (v := 0) hx hb dL_furnish_2 (by decide) ?_
  refine lv_aload_n hx hb dL_furnish_3 rfl (lv_at hl 0 rfl) ?_
  refine lv_iload_n hx hb dL_furnish_4 rfl (lv_at hl 1 rfl) ?_
  refine lv_iload_n hx hb dL_furnish_5 rfl (lv_at hl 2 rfl) ?_
  refine lv_iload_n hx hb dL_furnish_6 rfl (lv_at hl 3 rfl) ?_
  refine m_zV 3 [.int xb, .int xc, .int xq] [.int 0, .ref qo] hx hb hml hown hts hK (c_furnishOk l E A g M σ hv hw hp hd hX9 xb xc xq hok hn) gL_furnish_X4_furnish rfl rfl rfl (by decide +kernel) rfl ⟨Nat.le_of_ble_eq_true rfl, Nat.le_of_ble_eq_true rfl⟩ hM0 (CW.x hw) rfl rfl ⟨hM, hA⟩ hl.1 (Nat.le_of_ble_eq_true rfl) ⟨Nat.le_of_ble_eq_true rfl, Nat.le_of_ble_eq_true rfl⟩ rfl dL_furnish_7 hZ (fun _ h => Or.inl h) hS (fun _ _ h => Or.inl h) (fun _ h => Or.inl h) (fun H locs hQ hz hk hS => ?_)
  obtain ⟨g2, M, hg0, hM, hX⟩ := hQ
  have hO := (hk _ hO.lt hqo).trans hO
  refine W.eq (g2 := F0 m 10 ls [.int (nI (kR σ)), .int 0, .ref qo]) rfl ?_
  refine lv_i2l hx hb dL_furnish_10 rfl ?_
  refine o_last hx hb hK hO (Or.inr rfl) hS dL_furnish_11 (fun H locs f1 hO hf1 hz hk hS => ?_)
  have hM := hM.kept (fun t e ht => hk _ (fun h => hqo (h ▸ (hM.1 t e ht).2)))
  refine lv_goto (tgt := 23) hx hb dL_furnish_12 (by decide) ?_
  refine lv_iconst (v := 0) hx hb dL_furnish_23 (by decide) ?_
  exact w_i hx hb hr hlocks dL_furnish_24 hS (Nat.le_of_ble_eq_true rfl) (Nat.le_of_ble_eq_true rfl) rfl (⟨g2, M, hg0, hM, hX, f1, hO, fun _ => hf1.trans (rfl)⟩)
set_option maxHeartbeats 4000000 in
set_option maxRecDepth 100000 in
theorem w_come1 (l : Launch) (hl9 : l.stackTraces = false) (E : gE) (A : Nat → Prop) (g : Nat → Nat) (M : gM) (σ : Sg) (hv : VS σ) (hw : CW E g M σ) (hp : PW E M σ) (hd : CD M σ) (xc xn xv : Int32) (hbad : ¬ ((0 ≤ xc ∧ xc ≤ 1000) ∧ (1 ≤ xn ∧ xn ≤ 6) ∧ ((-9) ≤ xv ∧ xv ≤ 90))) (qo : Nat) (hqo : ¬ A qo) (fo : Nat → Int64) : Met l yL_come wsL_come ({ frames := 30, cells := 4, slots := 60, locals := 1500 } : Room) (Pz E (fun q => A q ∨ q = qo) [.ref (g 0), .int xc, .int xn, .int xv, .ref qo] (PO E A g M qo fo)) (QO E g qo A (1, 0, σ)) 4 60 (fun q => A q ∨ q = qo) := by
  refine e_entry (by decide) rfl (Nat.le_of_ble_eq_true rfl) ?_
  intro p e s m args below meth c hx hb hr hml hts hown hlocks hin hP hK hZ htab ls hl
  obtain ⟨hM, hA, hO⟩ := hP
  have hl : lv_has ls 6 [(0, .ref (g 0)), (1, .int xc), (2, .int xn), (3, .int xv), (4, .ref qo)] := hl
  have hown : s.vm.findClass RL = some m.cls := hown
  have hS : va_S (fun q => A q ∨ q = qo) s.heap s.heap [] := va_S.rf
  have hM0 := hM.up (B := fun q => A q ∨ q = qo) (fun _ h => Or.inl h)
  refine lv_aload hx hb dL_come_0 (lv_at hl 4 rfl) ?_
  refine lv_iconst (v := 0) hx hb dL_come_2 (by decide) ?_
  refine lv_aload_n hx hb dL_come_3 rfl (lv_at hl 0 rfl) ?_
  refine lv_iload_n hx hb dL_come_4 rfl (lv_at hl 1 rfl) ?_
  refine lv_iload_n hx hb dL_come_5 rfl (lv_at hl 2 rfl) ?_
  refine lv_iload_n hx hb dL_come_6 rfl (lv_at hl 3 rfl) ?_
  refine m_xV 3 [.int xc, .int xn, .int xv] [.int 0, .ref qo] hx hb hml hown hts hK (x_come1 l hl9 E A g M σ hv hw xc xn xv hbad) gL_come_X4_come rfl rfl rfl (by decide +kernel) rfl ⟨Nat.le_of_ble_eq_true rfl, Nat.le_of_ble_eq_true rfl⟩ hM (CW.x hw) rfl rfl (by exact hM) hl.1 (Nat.le_of_ble_eq_true rfl) ⟨Nat.le_of_ble_eq_true rfl, Nat.le_of_ble_eq_true rfl⟩ rfl dL_come_7 hZ (fun _ h => Or.inl h) hS (fun ce q9 H locs hz9 hk9 hS hce hcv hcl => ?_)
  refine vx_catch (own := RL) (name := "java/lang/IllegalArgumentException") hown [] ⟨0, 12, 15, 13⟩ [⟨0, 12, 19, 15⟩] (by rw [htab]; rfl) (fun z hz => nomatch hz) (by decide) (by decide) (hts (.classLink RL 13 "java/lang/IllegalArgumentException") (by decide +kernel)) (va_Nw.use rfl (hZ.castE (by simp))) hce hcv hcl ?_
  refine W.eq (g2 := F0 m 15 ls [.ref q9]) rfl ?_
  refine lv_astore (lv' := [(5, .ref q9), (0, .ref (g 0)), (1, .int xc), (2, .int xn), (3, .int xv), (4, .ref qo)]) hx hb dL_come_15 hl (by decide) rfl (fun ls hl => ?_)
  refine lv_iconst (v := 1) hx hb dL_come_17 (by decide) ?_
  exact w_i hx hb hr hlocks dL_come_18 hS (Nat.le_of_ble_eq_true rfl) (Nat.le_of_ble_eq_true rfl) rfl (⟨g, M, rfl, hM.kept (fun t e ht => hk9 _ (hM.lt ht)), ⟨hw, hp, hd⟩, fo, (hk9 _ hO.lt).trans hO, fun h => absurd (show (1 : Int32) = 0 from h) (by decide)⟩)
set_option maxHeartbeats 4000000 in
set_option maxRecDepth 100000 in
theorem w_come2 (l : Launch) (hl9 : l.stackTraces = false) (E : gE) (A : Nat → Prop) (g : Nat → Nat) (M : gM) (σ : Sg) (hv : VS σ) (hw : CW E g M σ) (hp : PW E M σ) (hd : CD M σ) (xc xn xv : Int32) (hok : ((0 ≤ xc ∧ xc ≤ 1000) ∧ (1 ≤ xn ∧ xn ≤ 6) ∧ ((-9) ≤ xv ∧ xv ≤ 90))) (hfull : kU σ = 12) (qo : Nat) (hqo : ¬ A qo) (fo : Nat → Int64) : Met l yL_come wsL_come ({ frames := 30, cells := 4, slots := 60, locals := 1500 } : Room) (Pz E (fun q => A q ∨ q = qo) [.ref (g 0), .int xc, .int xn, .int xv, .ref qo] (PO E A g M qo fo)) (QO E g qo A (2, 0, σ)) 4 60 (fun q => A q ∨ q = qo) := by
  refine e_entry (by decide) rfl (Nat.le_of_ble_eq_true rfl) ?_
  intro p e s m args below meth c hx hb hr hml hts hown hlocks hin hP hK hZ htab ls hl
  obtain ⟨hM, hA, hO⟩ := hP
  have hl : lv_has ls 6 [(0, .ref (g 0)), (1, .int xc), (2, .int xn), (3, .int xv), (4, .ref qo)] := hl
  have hown : s.vm.findClass RL = some m.cls := hown
  have hS : va_S (fun q => A q ∨ q = qo) s.heap s.heap [] := va_S.rf
  have hM0 := hM.up (B := fun q => A q ∨ q = qo) (fun _ h => Or.inl h)
  refine lv_aload hx hb dL_come_0 (lv_at hl 4 rfl) ?_
  refine lv_iconst (v := 0) hx hb dL_come_2 (by decide) ?_
  refine lv_aload_n hx hb dL_come_3 rfl (lv_at hl 0 rfl) ?_
  refine lv_iload_n hx hb dL_come_4 rfl (lv_at hl 1 rfl) ?_
  refine lv_iload_n hx hb dL_come_5 rfl (lv_at hl 2 rfl) ?_
  refine lv_iload_n hx hb dL_come_6 rfl (lv_at hl 3 rfl) ?_
  refine m_xV 3 [.int xc, .int xn, .int xv] [.int 0, .ref qo] hx hb hml hown hts hK (x_come2 l hl9 E A g M σ hv hw xc xn xv hok hfull) gL_come_X4_come rfl rfl rfl (by decide +kernel) rfl ⟨Nat.le_of_ble_eq_true rfl, Nat.le_of_ble_eq_true rfl⟩ hM (CW.x hw) rfl rfl (by exact hM) hl.1 (Nat.le_of_ble_eq_true rfl) ⟨Nat.le_of_ble_eq_true rfl, Nat.le_of_ble_eq_true rfl⟩ rfl dL_come_7 hZ (fun _ h => Or.inl h) hS (fun ce q9 H locs hz9 hk9 hS hce hcv hcl => ?_)
  refine vx_catch (own := RL) (name := "java/lang/IllegalStateException") hown [⟨0, 12, 15, 13⟩] ⟨0, 12, 19, 15⟩ [] (by rw [htab]; rfl) (fun z hz => by simp only [List.mem_cons, List.not_mem_nil, or_false] at hz; rcases hz with rfl <;> first | exact Or.inr ⟨by decide, _, hts (.classLink RL 13 "java/lang/IllegalArgumentException") (by decide +kernel), hZ.1.2.2.2.2.2.1.1⟩) (by decide) (by decide) (hts (.classLink RL 15 "java/lang/IllegalStateException") (by decide +kernel)) (va_Nw.use rfl (hZ.castE (by simp))) hce hcv hcl ?_
  refine W.eq (g2 := F0 m 19 ls [.ref q9]) rfl ?_
  refine lv_astore (lv' := [(5, .ref q9), (0, .ref (g 0)), (1, .int xc), (2, .int xn), (3, .int xv), (4, .ref qo)]) hx hb dL_come_19 hl (by decide) rfl (fun ls hl => ?_)
  refine lv_iconst (v := 2) hx hb dL_come_21 (by decide) ?_
  exact w_i hx hb hr hlocks dL_come_22 hS (Nat.le_of_ble_eq_true rfl) (Nat.le_of_ble_eq_true rfl) rfl (⟨g, M, rfl, hM.kept (fun t e ht => hk9 _ (hM.lt ht)), ⟨hw, hp, hd⟩, fo, (hk9 _ hO.lt).trans hO, fun h => absurd (show (2 : Int32) = 0 from h) (by decide)⟩)
set_option maxHeartbeats 4000000 in
set_option maxRecDepth 100000 in
theorem w_comeOk (l : Launch) (E : gE) (A : Nat → Prop) (g : Nat → Nat) (M : gM) (σ : Sg) (hv : VS σ) (hw : CW E g M σ) (hp : PW E M σ) (hd : CD M σ) (hX9 : VX σ) (xc xn xv : Int32) (hok : ((0 ≤ xc ∧ xc ≤ 1000) ∧ (1 ≤ xn ∧ xn ≤ 6) ∧ ((-9) ≤ xv ∧ xv ≤ 90))) (hn : kU σ < 12) (qo : Nat) (hqo : ¬ A qo) (fo : Nat → Int64) : Met l yL_come wsL_come ({ frames := 30, cells := 4, slots := 60, locals := 1500 } : Room) (Pz E (fun q => A q ∨ q = qo) [.ref (g 0), .int xc, .int xn, .int xv, .ref qo] (PO E A g M qo fo)) (QO E g qo A (0, nI (kU σ), coS σ xc xn xv)) 4 60 (fun q => A q ∨ q = qo) := by
  refine e_entry (by decide) rfl (Nat.le_of_ble_eq_true rfl) ?_
  intro p e s m args below meth c hx hb hr hml hts hown hlocks hin hP hK hZ htab ls hl
  obtain ⟨hM, hA, hO⟩ := hP
  have hl : lv_has ls 6 [(0, .ref (g 0)), (1, .int xc), (2, .int xn), (3, .int xv), (4, .ref qo)] := hl
  have hown : s.vm.findClass RL = some m.cls := hown
  have hS : va_S (fun q => A q ∨ q = qo) s.heap s.heap [] := va_S.rf
  have hM0 := hM.up (B := fun q => A q ∨ q = qo) (fun _ h => Or.inl h)
  refine lv_aload hx hb dL_come_0 (lv_at hl 4 rfl) ?_
  refine lv_iconst (v := 0) hx hb dL_come_2 (by decide) ?_
  refine lv_aload_n hx hb dL_come_3 rfl (lv_at hl 0 rfl) ?_
  refine lv_iload_n hx hb dL_come_4 rfl (lv_at hl 1 rfl) ?_
  refine lv_iload_n hx hb dL_come_5 rfl (lv_at hl 2 rfl) ?_
  refine lv_iload_n hx hb dL_come_6 rfl (lv_at hl 3 rfl) ?_
  refine m_zV 3 [.int xc, .int xn, .int xv] [.int 0, .ref qo] hx hb hml hown hts hK (c_comeOk l E A g M σ hv hw hp hd hX9 xc xn xv hok hn) gL_come_X4_come rfl rfl rfl (by decide +kernel) rfl ⟨Nat.le_of_ble_eq_true rfl, Nat.le_of_ble_eq_true rfl⟩ hM0 (CW.x hw) rfl rfl ⟨hM, hA⟩ hl.1 (Nat.le_of_ble_eq_true rfl) ⟨Nat.le_of_ble_eq_true rfl, Nat.le_of_ble_eq_true rfl⟩ rfl dL_come_7 hZ (fun _ h => Or.inl h) hS (fun _ _ h => Or.inl h) (fun _ h => Or.inl h) (fun H locs hQ hz hk hS => ?_)
  obtain ⟨g2, M, hg0, hM, hX⟩ := hQ
  have hO := (hk _ hO.lt hqo).trans hO
  refine W.eq (g2 := F0 m 10 ls [.int (nI (kU σ)), .int 0, .ref qo]) rfl ?_
  refine lv_i2l hx hb dL_come_10 rfl ?_
  refine o_last hx hb hK hO (Or.inr rfl) hS dL_come_11 (fun H locs f1 hO hf1 hz hk hS => ?_)
  have hM := hM.kept (fun t e ht => hk _ (fun h => hqo (h ▸ (hM.1 t e ht).2)))
  refine lv_goto (tgt := 23) hx hb dL_come_12 (by decide) ?_
  refine lv_iconst (v := 0) hx hb dL_come_23 (by decide) ?_
  exact w_i hx hb hr hlocks dL_come_24 hS (Nat.le_of_ble_eq_true rfl) (Nat.le_of_ble_eq_true rfl) rfl (⟨g2, M, hg0, hM, hX, f1, hO, fun _ => hf1.trans (rfl)⟩)
set_option maxHeartbeats 4000000 in
set_option maxRecDepth 100000 in
theorem w_door1 (l : Launch) (hl9 : l.stackTraces = false) (E : gE) (A : Nat → Prop) (g : Nat → Nat) (M : gM) (σ : Sg) (hv : VS σ) (hw : CW E g M σ) (hp : PW E M σ) (hd : CD M σ) (x y : Int32) (hbad : ¬ ((0 ≤ x ∧ x < nI (kR σ)) ∧ (0 ≤ y ∧ y < nI (kR σ)))) (qo : Nat) (hqo : ¬ A qo) (fo : Nat → Int64) : Met l yL_door wsL_door ({ frames := 30, cells := 4, slots := 60, locals := 1500 } : Room) (Pz E (fun q => A q ∨ q = qo) [.ref (g 0), .int x, .int y, .ref qo] (PO E A g M qo fo)) (QO E g qo A (1, 0, σ)) 4 60 (fun q => A q ∨ q = qo) := by
  refine e_entry (by decide) rfl (Nat.le_of_ble_eq_true rfl) ?_
  intro p e s m args below meth c hx hb hr hml hts hown hlocks hin hP hK hZ htab ls hl
  obtain ⟨hM, hA, hO⟩ := hP
  have hl : lv_has ls 5 [(0, .ref (g 0)), (1, .int x), (2, .int y), (3, .ref qo)] := hl
  have hown : s.vm.findClass RL = some m.cls := hown
  have hS : va_S (fun q => A q ∨ q = qo) s.heap s.heap [] := va_S.rf
  have hM0 := hM.up (B := fun q => A q ∨ q = qo) (fun _ h => Or.inl h)
  refine lv_aload_n hx hb dL_door_0 rfl (lv_at hl 3 rfl) ?_
  refine lv_iconst (v := 0) hx hb dL_door_1 (by decide) ?_
  refine lv_aload_n hx hb dL_door_2 rfl (lv_at hl 0 rfl) ?_
  refine lv_iload_n hx hb dL_door_3 rfl (lv_at hl 1 rfl) ?_
  refine lv_iload_n hx hb dL_door_4 rfl (lv_at hl 2 rfl) ?_
  refine m_xV 2 [.int x, .int y] [.int 0, .ref qo] hx hb hml hown hts hK (x_door1 l hl9 E A g M σ hv hw x y hbad) gL_door_X4_door rfl rfl rfl (by decide +kernel) rfl ⟨Nat.le_of_ble_eq_true rfl, Nat.le_of_ble_eq_true rfl⟩ hM (CW.x hw) rfl rfl (by exact hM) hl.1 (Nat.le_of_ble_eq_true rfl) ⟨Nat.le_of_ble_eq_true rfl, Nat.le_of_ble_eq_true rfl⟩ rfl dL_door_5 hZ (fun _ h => Or.inl h) hS (fun ce q9 H locs hz9 hk9 hS hce hcv hcl => ?_)
  refine vx_catch (own := RL) (name := "java/lang/IndexOutOfBoundsException") hown [] ⟨0, 10, 13, 21⟩ [⟨0, 10, 17, 13⟩, ⟨0, 10, 21, 15⟩] (by rw [htab]; rfl) (fun z hz => nomatch hz) (by decide) (by decide) (hts (.classLink RL 21 "java/lang/IndexOutOfBoundsException") (by decide +kernel)) (va_Nw.use rfl (hZ.castE (by simp))) hce hcv hcl ?_
  refine W.eq (g2 := F0 m 13 ls [.ref q9]) rfl ?_
  refine lv_astore (lv' := [(4, .ref q9), (0, .ref (g 0)), (1, .int x), (2, .int y), (3, .ref qo)]) hx hb dL_door_13 hl (by decide) rfl (fun ls hl => ?_)
  refine lv_iconst (v := 1) hx hb dL_door_15 (by decide) ?_
  exact w_i hx hb hr hlocks dL_door_16 hS (Nat.le_of_ble_eq_true rfl) (Nat.le_of_ble_eq_true rfl) rfl (⟨g, M, rfl, hM.kept (fun t e ht => hk9 _ (hM.lt ht)), ⟨hw, hp, hd⟩, fo, (hk9 _ hO.lt).trans hO, fun h => absurd (show (1 : Int32) = 0 from h) (by decide)⟩)
set_option maxHeartbeats 4000000 in
set_option maxRecDepth 100000 in
theorem w_door2 (l : Launch) (hl9 : l.stackTraces = false) (E : gE) (A : Nat → Prop) (g : Nat → Nat) (M : gM) (σ : Sg) (hv : VS σ) (hw : CW E g M σ) (hp : PW E M σ) (hd : CD M σ) (a : Nat) (ha : a < kR σ) (qo : Nat) (hqo : ¬ A qo) (fo : Nat → Int64) : Met l yL_door wsL_door ({ frames := 30, cells := 4, slots := 60, locals := 1500 } : Room) (Pz E (fun q => A q ∨ q = qo) [.ref (g 0), .int (nI a), .int (nI a), .ref qo] (PO E A g M qo fo)) (QO E g qo A (2, 0, σ)) 4 60 (fun q => A q ∨ q = qo) := by
  refine e_entry (by decide) rfl (Nat.le_of_ble_eq_true rfl) ?_
  intro p e s m args below meth c hx hb hr hml hts hown hlocks hin hP hK hZ htab ls hl
  obtain ⟨hM, hA, hO⟩ := hP
  have hl : lv_has ls 5 [(0, .ref (g 0)), (1, .int (nI a)), (2, .int (nI a)), (3, .ref qo)] := hl
  have hown : s.vm.findClass RL = some m.cls := hown
  have hS : va_S (fun q => A q ∨ q = qo) s.heap s.heap [] := va_S.rf
  have hM0 := hM.up (B := fun q => A q ∨ q = qo) (fun _ h => Or.inl h)
  refine lv_aload_n hx hb dL_door_0 rfl (lv_at hl 3 rfl) ?_
  refine lv_iconst (v := 0) hx hb dL_door_1 (by decide) ?_
  refine lv_aload_n hx hb dL_door_2 rfl (lv_at hl 0 rfl) ?_
  refine lv_iload_n hx hb dL_door_3 rfl (lv_at hl 1 rfl) ?_
  refine lv_iload_n hx hb dL_door_4 rfl (lv_at hl 2 rfl) ?_
  refine m_xV 2 [.int (nI a), .int (nI a)] [.int 0, .ref qo] hx hb hml hown hts hK (x_door2 l hl9 E A g M σ hv hw a ha) gL_door_X4_door rfl rfl rfl (by decide +kernel) rfl ⟨Nat.le_of_ble_eq_true rfl, Nat.le_of_ble_eq_true rfl⟩ hM (CW.x hw) rfl rfl (by exact hM) hl.1 (Nat.le_of_ble_eq_true rfl) ⟨Nat.le_of_ble_eq_true rfl, Nat.le_of_ble_eq_true rfl⟩ rfl dL_door_5 hZ (fun _ h => Or.inl h) hS (fun ce q9 H locs hz9 hk9 hS hce hcv hcl => ?_)
  refine vx_catch (own := RL) (name := "java/lang/IllegalArgumentException") hown [⟨0, 10, 13, 21⟩] ⟨0, 10, 17, 13⟩ [⟨0, 10, 21, 15⟩] (by rw [htab]; rfl) (fun z hz => by simp only [List.mem_cons, List.not_mem_nil, or_false] at hz; rcases hz with rfl <;> first | exact Or.inr ⟨by decide, _, hts (.classLink RL 21 "java/lang/IndexOutOfBoundsException") (by decide +kernel), hZ.1.2.2.2.2.2.1.2.1⟩) (by decide) (by decide) (hts (.classLink RL 13 "java/lang/IllegalArgumentException") (by decide +kernel)) (va_Nw.use rfl (hZ.castE (by simp))) hce hcv hcl ?_
  refine W.eq (g2 := F0 m 17 ls [.ref q9]) rfl ?_
  refine lv_astore (lv' := [(4, .ref q9), (0, .ref (g 0)), (1, .int (nI a)), (2, .int (nI a)), (3, .ref qo)]) hx hb dL_door_17 hl (by decide) rfl (fun ls hl => ?_)
  refine lv_iconst (v := 2) hx hb dL_door_19 (by decide) ?_
  exact w_i hx hb hr hlocks dL_door_20 hS (Nat.le_of_ble_eq_true rfl) (Nat.le_of_ble_eq_true rfl) rfl (⟨g, M, rfl, hM.kept (fun t e ht => hk9 _ (hM.lt ht)), ⟨hw, hp, hd⟩, fo, (hk9 _ hO.lt).trans hO, fun h => absurd (show (2 : Int32) = 0 from h) (by decide)⟩)
set_option maxHeartbeats 4000000 in
set_option maxRecDepth 100000 in
theorem w_door3 (l : Launch) (hl9 : l.stackTraces = false) (E : gE) (A : Nat → Prop) (g : Nat → Nat) (M : gM) (σ : Sg) (hv : VS σ) (hw : CW E g M σ) (hp : PW E M σ) (hd : CD M σ) (a b : Nat) (ha : a < kR σ) (hb9 : b < kR σ) (hab : ¬ a = b) (hbit : bitAt (sJn σ a) b = false) (hfull : kD σ = 20) (qo : Nat) (hqo : ¬ A qo) (fo : Nat → Int64) : Met l yL_door wsL_door ({ frames := 30, cells := 4, slots := 60, locals := 1500 } : Room) (Pz E (fun q => A q ∨ q = qo) [.ref (g 0), .int (nI a), .int (nI b), .ref qo] (PO E A g M qo fo)) (QO E g qo A (3, 0, σ)) 4 60 (fun q => A q ∨ q = qo) := by
  refine e_entry (by decide) rfl (Nat.le_of_ble_eq_true rfl) ?_
  intro p e s m args below meth c hx hb hr hml hts hown hlocks hin hP hK hZ htab ls hl
  obtain ⟨hM, hA, hO⟩ := hP
  have hl : lv_has ls 5 [(0, .ref (g 0)), (1, .int (nI a)), (2, .int (nI b)), (3, .ref qo)] := hl
  have hown : s.vm.findClass RL = some m.cls := hown
  have hS : va_S (fun q => A q ∨ q = qo) s.heap s.heap [] := va_S.rf
  have hM0 := hM.up (B := fun q => A q ∨ q = qo) (fun _ h => Or.inl h)
  refine lv_aload_n hx hb dL_door_0 rfl (lv_at hl 3 rfl) ?_
  refine lv_iconst (v := 0) hx hb dL_door_1 (by decide) ?_
  refine lv_aload_n hx hb dL_door_2 rfl (lv_at hl 0 rfl) ?_
  refine lv_iload_n hx hb dL_door_3 rfl (lv_at hl 1 rfl) ?_
  refine lv_iload_n hx hb dL_door_4 rfl (lv_at hl 2 rfl) ?_
  refine m_xV 2 [.int (nI a), .int (nI b)] [.int 0, .ref qo] hx hb hml hown hts hK (x_door3 l hl9 E A g M σ hv hw a b ha hb9 hab hbit hfull) gL_door_X4_door rfl rfl rfl (by decide +kernel) rfl ⟨Nat.le_of_ble_eq_true rfl, Nat.le_of_ble_eq_true rfl⟩ hM (CW.x hw) rfl rfl (by exact hM) hl.1 (Nat.le_of_ble_eq_true rfl) ⟨Nat.le_of_ble_eq_true rfl, Nat.le_of_ble_eq_true rfl⟩ rfl dL_door_5 hZ (fun _ h => Or.inl h) hS (fun ce q9 H locs hz9 hk9 hS hce hcv hcl => ?_)
  refine vx_catch (own := RL) (name := "java/lang/IllegalStateException") hown [⟨0, 10, 13, 21⟩, ⟨0, 10, 17, 13⟩] ⟨0, 10, 21, 15⟩ [] (by rw [htab]; rfl) (fun z hz => by simp only [List.mem_cons, List.not_mem_nil, or_false] at hz; rcases hz with rfl | rfl <;> first | exact Or.inr ⟨by decide, _, hts (.classLink RL 21 "java/lang/IndexOutOfBoundsException") (by decide +kernel), hZ.1.2.2.2.2.2.1.2.2⟩ | exact Or.inr ⟨by decide, _, hts (.classLink RL 13 "java/lang/IllegalArgumentException") (by decide +kernel), hZ.1.2.2.2.2.2.1.1⟩) (by decide) (by decide) (hts (.classLink RL 15 "java/lang/IllegalStateException") (by decide +kernel)) (va_Nw.use rfl (hZ.castE (by simp))) hce hcv hcl ?_
  refine W.eq (g2 := F0 m 21 ls [.ref q9]) rfl ?_
  refine lv_astore (lv' := [(4, .ref q9), (0, .ref (g 0)), (1, .int (nI a)), (2, .int (nI b)), (3, .ref qo)]) hx hb dL_door_21 hl (by decide) rfl (fun ls hl => ?_)
  refine lv_iconst (v := 3) hx hb dL_door_23 (by decide) ?_
  exact w_i hx hb hr hlocks dL_door_24 hS (Nat.le_of_ble_eq_true rfl) (Nat.le_of_ble_eq_true rfl) rfl (⟨g, M, rfl, hM.kept (fun t e ht => hk9 _ (hM.lt ht)), ⟨hw, hp, hd⟩, fo, (hk9 _ hO.lt).trans hO, fun h => absurd (show (3 : Int32) = 0 from h) (by decide)⟩)
set_option maxHeartbeats 4000000 in
set_option maxRecDepth 100000 in
theorem w_door0 (l : Launch) (E : gE) (A : Nat → Prop) (g : Nat → Nat) (M : gM) (σ : Sg) (hv : VS σ) (hw : CW E g M σ) (hp : PW E M σ) (hd : CD M σ) (a b : Nat) (ha : a < kR σ) (hb9 : b < kR σ) (hab : ¬ a = b) (hbit : bitAt (sJn σ a) b = true) (qo : Nat) (hqo : ¬ A qo) (fo : Nat → Int64) : Met l yL_door wsL_door ({ frames := 30, cells := 4, slots := 60, locals := 1500 } : Room) (Pz E (fun q => A q ∨ q = qo) [.ref (g 0), .int (nI a), .int (nI b), .ref qo] (PO E A g M qo fo)) (QO E g qo A (0, nI (kD σ), σ)) 4 60 (fun q => A q ∨ q = qo) := by
  refine e_entry (by decide) rfl (Nat.le_of_ble_eq_true rfl) ?_
  intro p e s m args below meth c hx hb hr hml hts hown hlocks hin hP hK hZ htab ls hl
  obtain ⟨hM, hA, hO⟩ := hP
  have hl : lv_has ls 5 [(0, .ref (g 0)), (1, .int (nI a)), (2, .int (nI b)), (3, .ref qo)] := hl
  have hown : s.vm.findClass RL = some m.cls := hown
  have hS : va_S (fun q => A q ∨ q = qo) s.heap s.heap [] := va_S.rf
  have hM0 := hM.up (B := fun q => A q ∨ q = qo) (fun _ h => Or.inl h)
  refine lv_aload_n hx hb dL_door_0 rfl (lv_at hl 3 rfl) ?_
  refine lv_iconst (v := 0) hx hb dL_door_1 (by decide) ?_
  refine lv_aload_n hx hb dL_door_2 rfl (lv_at hl 0 rfl) ?_
  refine lv_iload_n hx hb dL_door_3 rfl (lv_at hl 1 rfl) ?_
  refine lv_iload_n hx hb dL_door_4 rfl (lv_at hl 2 rfl) ?_
  refine m_wV 2 [.int (nI a), .int (nI b)] [.int 0, .ref qo] hx hb hml hown hts hK (c_door0 l E A g M σ hv hw hp hd a b ha hb9 hab hbit) gL_door_X4_door rfl rfl rfl (by decide +kernel) rfl ⟨Nat.le_of_ble_eq_true rfl, Nat.le_of_ble_eq_true rfl⟩ hM0 (CW.x hw) rfl rfl hM hl.1 (Nat.le_of_ble_eq_true rfl) ⟨Nat.le_of_ble_eq_true rfl, Nat.le_of_ble_eq_true rfl⟩ rfl dL_door_5 hS (fun _ _ h => Or.inl h) (fun _ h => Or.inl h) (fun H locs hQ hz hk hS => ?_)
  obtain ⟨M, hM, hX⟩ := hQ
  have hO := (hk _ hO.lt hqo).trans hO
  refine W.eq (g2 := F0 m 8 ls [.int (nI (kD σ)), .int 0, .ref qo]) rfl ?_
  refine lv_i2l hx hb dL_door_8 rfl ?_
  refine o_last hx hb hK hO (Or.inr rfl) hS dL_door_9 (fun H locs f1 hO hf1 hz hk hS => ?_)
  have hM := hM.kept (fun t e ht => hk _ (fun h => hqo (h ▸ (hM.1 t e ht).2)))
  refine lv_goto (tgt := 25) hx hb dL_door_10 (by decide) ?_
  refine lv_iconst (v := 0) hx hb dL_door_25 (by decide) ?_
  exact w_i hx hb hr hlocks dL_door_26 hS (Nat.le_of_ble_eq_true rfl) (Nat.le_of_ble_eq_true rfl) rfl (⟨g, M, rfl, hM, hX, f1, hO, fun _ => hf1.trans (rfl)⟩)
set_option maxHeartbeats 4000000 in
set_option maxRecDepth 100000 in
theorem w_doorOk (l : Launch) (E : gE) (A : Nat → Prop) (g : Nat → Nat) (M : gM) (σ : Sg) (hv : VS σ) (hw : CW E g M σ) (hp : PW E M σ) (hd : CD M σ) (a b : Nat) (ha : a < kR σ) (hb9 : b < kR σ) (hab : ¬ a = b) (hbit : bitAt (sJn σ a) b = false) (hfree : kD σ < 20) (hv2 : VS (drS σ a b)) (qo : Nat) (hqo : ¬ A qo) (fo : Nat → Int64) : Met l yL_door wsL_door ({ frames := 30, cells := 4, slots := 60, locals := 1500 } : Room) (Pz E (fun q => A q ∨ q = qo) [.ref (g 0), .int (nI a), .int (nI b), .ref qo] (PO E A g M qo fo)) (QO E g qo A (0, nI (kD σ + 1), drS σ a b)) 4 60 (fun q => A q ∨ q = qo) := by
  refine e_entry (by decide) rfl (Nat.le_of_ble_eq_true rfl) ?_
  intro p e s m args below meth c hx hb hr hml hts hown hlocks hin hP hK hZ htab ls hl
  obtain ⟨hM, hA, hO⟩ := hP
  have hl : lv_has ls 5 [(0, .ref (g 0)), (1, .int (nI a)), (2, .int (nI b)), (3, .ref qo)] := hl
  have hown : s.vm.findClass RL = some m.cls := hown
  have hS : va_S (fun q => A q ∨ q = qo) s.heap s.heap [] := va_S.rf
  have hM0 := hM.up (B := fun q => A q ∨ q = qo) (fun _ h => Or.inl h)
  refine lv_aload_n hx hb dL_door_0 rfl (lv_at hl 3 rfl) ?_
  refine lv_iconst (v := 0) hx hb dL_door_1 (by decide) ?_
  refine lv_aload_n hx hb dL_door_2 rfl (lv_at hl 0 rfl) ?_
  refine lv_iload_n hx hb dL_door_3 rfl (lv_at hl 1 rfl) ?_
  refine lv_iload_n hx hb dL_door_4 rfl (lv_at hl 2 rfl) ?_
  refine m_wV 2 [.int (nI a), .int (nI b)] [.int 0, .ref qo] hx hb hml hown hts hK (c_doorOk l E A g M σ hv hw hp hd a b ha hb9 hab hbit hfree hv2) gL_door_X4_door rfl rfl rfl (by decide +kernel) rfl ⟨Nat.le_of_ble_eq_true rfl, Nat.le_of_ble_eq_true rfl⟩ hM0 (CW.x hw) rfl rfl hM hl.1 (Nat.le_of_ble_eq_true rfl) ⟨Nat.le_of_ble_eq_true rfl, Nat.le_of_ble_eq_true rfl⟩ rfl dL_door_5 hS (fun _ _ h => Or.inl h) (fun _ h => Or.inl h) (fun H locs hQ hz hk hS => ?_)
  obtain ⟨M, hM, hX⟩ := hQ
  have hO := (hk _ hO.lt hqo).trans hO
  refine W.eq (g2 := F0 m 8 ls [.int (nI (kD σ + 1)), .int 0, .ref qo]) rfl ?_
  refine lv_i2l hx hb dL_door_8 rfl ?_
  refine o_last hx hb hK hO (Or.inr rfl) hS dL_door_9 (fun H locs f1 hO hf1 hz hk hS => ?_)
  have hM := hM.kept (fun t e ht => hk _ (fun h => hqo (h ▸ (hM.1 t e ht).2)))
  refine lv_goto (tgt := 25) hx hb dL_door_10 (by decide) ?_
  refine lv_iconst (v := 0) hx hb dL_door_25 (by decide) ?_
  exact w_i hx hb hr hlocks dL_door_26 hS (Nat.le_of_ble_eq_true rfl) (Nat.le_of_ble_eq_true rfl) rfl (⟨g, M, rfl, hM, hX, f1, hO, fun _ => hf1.trans (rfl)⟩)
set_option maxHeartbeats 4000000 in
set_option maxRecDepth 100000 in
theorem w_haunt1 (l : Launch) (hl9 : l.stackTraces = false) (E : gE) (A : Nat → Prop) (g : Nat → Nat) (M : gM) (σ : Sg) (hv : VS σ) (hw : CW E g M σ) (hp : PW E M σ) (hd : CD M σ) (x xf xw xb : Int32) (hbad : ¬ (0 ≤ x ∧ x < nI (kR σ))) (qo : Nat) (hqo : ¬ A qo) (fo : Nat → Int64) : Met l yL_haunt wsL_haunt ({ frames := 30, cells := 4, slots := 60, locals := 1500 } : Room) (Pz E (fun q => A q ∨ q = qo) [.ref (g 0), .int x, .int xf, .int xw, .int xb, .ref qo] (PO E A g M qo fo)) (QO E g qo A (1, 0, σ)) 4 60 (fun q => A q ∨ q = qo) := by
  refine e_entry (by decide) rfl (Nat.le_of_ble_eq_true rfl) ?_
  intro p e s m args below meth c hx hb hr hml hts hown hlocks hin hP hK hZ htab ls hl
  obtain ⟨hM, hA, hO⟩ := hP
  have hl : lv_has ls 7 [(0, .ref (g 0)), (1, .int x), (2, .int xf), (3, .int xw), (4, .int xb), (5, .ref qo)] := hl
  have hown : s.vm.findClass RL = some m.cls := hown
  have hS : va_S (fun q => A q ∨ q = qo) s.heap s.heap [] := va_S.rf
  have hM0 := hM.up (B := fun q => A q ∨ q = qo) (fun _ h => Or.inl h)
  refine lv_aload hx hb dL_haunt_0 (lv_at hl 5 rfl) ?_
  refine lv_iconst (v := 0) hx hb dL_haunt_2 (by decide) ?_
  refine lv_aload_n hx hb dL_haunt_3 rfl (lv_at hl 0 rfl) ?_
  refine lv_iload_n hx hb dL_haunt_4 rfl (lv_at hl 1 rfl) ?_
  refine lv_iload_n hx hb dL_haunt_5 rfl (lv_at hl 2 rfl) ?_
  refine lv_iload_n hx hb dL_haunt_6 rfl (lv_at hl 3 rfl) ?_
  refine lv_iload hx hb dL_haunt_7 (lv_at hl 4 rfl) ?_
  refine m_xV 4 [.int x, .int xf, .int xw, .int xb] [.int 0, .ref qo] hx hb hml hown hts hK (x_haunt1 l hl9 E A g M σ hv hw x xf xw xb hbad) gL_haunt_X4_haunt rfl rfl rfl (by decide +kernel) rfl ⟨Nat.le_of_ble_eq_true rfl, Nat.le_of_ble_eq_true rfl⟩ hM (CW.x hw) rfl rfl (by exact hM) hl.1 (Nat.le_of_ble_eq_true rfl) ⟨Nat.le_of_ble_eq_true rfl, Nat.le_of_ble_eq_true rfl⟩ rfl dL_haunt_9 hZ (fun _ h => Or.inl h) hS (fun ce q9 H locs hz9 hk9 hS hce hcv hcl => ?_)
  refine vx_catch (own := RL) (name := "java/lang/IndexOutOfBoundsException") hown [] ⟨0, 14, 17, 21⟩ [⟨0, 14, 21, 13⟩, ⟨0, 14, 25, 15⟩] (by rw [htab]; rfl) (fun z hz => nomatch hz) (by decide) (by decide) (hts (.classLink RL 21 "java/lang/IndexOutOfBoundsException") (by decide +kernel)) (va_Nw.use rfl (hZ.castE (by simp))) hce hcv hcl ?_
  refine W.eq (g2 := F0 m 17 ls [.ref q9]) rfl ?_
  refine lv_astore (lv' := [(6, .ref q9), (0, .ref (g 0)), (1, .int x), (2, .int xf), (3, .int xw), (4, .int xb), (5, .ref qo)]) hx hb dL_haunt_17 hl (by decide) rfl (fun ls hl => ?_)
  refine lv_iconst (v := 1) hx hb dL_haunt_19 (by decide) ?_
  exact w_i hx hb hr hlocks dL_haunt_20 hS (Nat.le_of_ble_eq_true rfl) (Nat.le_of_ble_eq_true rfl) rfl (⟨g, M, rfl, hM.kept (fun t e ht => hk9 _ (hM.lt ht)), ⟨hw, hp, hd⟩, fo, (hk9 _ hO.lt).trans hO, fun h => absurd (show (1 : Int32) = 0 from h) (by decide)⟩)
set_option maxHeartbeats 4000000 in
set_option maxRecDepth 100000 in
theorem w_haunt2 (l : Launch) (hl9 : l.stackTraces = false) (E : gE) (A : Nat → Prop) (g : Nat → Nat) (M : gM) (σ : Sg) (hv : VS σ) (hw : CW E g M σ) (hp : PW E M σ) (hd : CD M σ) (k : Nat) (hk9 : k < kR σ) (xf xw xb : Int32) (hbad : ¬ ((1 ≤ xf ∧ xf ≤ 9) ∧ (0 ≤ xw ∧ xw ≤ 11) ∧ xw < xb ∧ xb ≤ 12)) (qo : Nat) (hqo : ¬ A qo) (fo : Nat → Int64) : Met l yL_haunt wsL_haunt ({ frames := 30, cells := 4, slots := 60, locals := 1500 } : Room) (Pz E (fun q => A q ∨ q = qo) [.ref (g 0), .int (nI k), .int xf, .int xw, .int xb, .ref qo] (PO E A g M qo fo)) (QO E g qo A (2, 0, σ)) 4 60 (fun q => A q ∨ q = qo) := by
  refine e_entry (by decide) rfl (Nat.le_of_ble_eq_true rfl) ?_
  intro p e s m args below meth c hx hb hr hml hts hown hlocks hin hP hK hZ htab ls hl
  obtain ⟨hM, hA, hO⟩ := hP
  have hl : lv_has ls 7 [(0, .ref (g 0)), (1, .int (nI k)), (2, .int xf), (3, .int xw), (4, .int xb), (5, .ref qo)] := hl
  have hown : s.vm.findClass RL = some m.cls := hown
  have hS : va_S (fun q => A q ∨ q = qo) s.heap s.heap [] := va_S.rf
  have hM0 := hM.up (B := fun q => A q ∨ q = qo) (fun _ h => Or.inl h)
  refine lv_aload hx hb dL_haunt_0 (lv_at hl 5 rfl) ?_
  refine lv_iconst (v := 0) hx hb dL_haunt_2 (by decide) ?_
  refine lv_aload_n hx hb dL_haunt_3 rfl (lv_at hl 0 rfl) ?_
  refine lv_iload_n hx hb dL_haunt_4 rfl (lv_at hl 1 rfl) ?_
  refine lv_iload_n hx hb dL_haunt_5 rfl (lv_at hl 2 rfl) ?_
  refine lv_iload_n hx hb dL_haunt_6 rfl (lv_at hl 3 rfl) ?_
  refine lv_iload hx hb dL_haunt_7 (lv_at hl 4 rfl) ?_
  refine m_xV 4 [.int (nI k), .int xf, .int xw, .int xb] [.int 0, .ref qo] hx hb hml hown hts hK (x_haunt2 l hl9 E A g M σ hv hw k hk9 xf xw xb hbad) gL_haunt_X4_haunt rfl rfl rfl (by decide +kernel) rfl ⟨Nat.le_of_ble_eq_true rfl, Nat.le_of_ble_eq_true rfl⟩ hM (CW.x hw) rfl rfl (by exact hM) hl.1 (Nat.le_of_ble_eq_true rfl) ⟨Nat.le_of_ble_eq_true rfl, Nat.le_of_ble_eq_true rfl⟩ rfl dL_haunt_9 hZ (fun _ h => Or.inl h) hS (fun ce q9 H locs hz9 hk9 hS hce hcv hcl => ?_)
  refine vx_catch (own := RL) (name := "java/lang/IllegalArgumentException") hown [⟨0, 14, 17, 21⟩] ⟨0, 14, 21, 13⟩ [⟨0, 14, 25, 15⟩] (by rw [htab]; rfl) (fun z hz => by simp only [List.mem_cons, List.not_mem_nil, or_false] at hz; rcases hz with rfl <;> first | exact Or.inr ⟨by decide, _, hts (.classLink RL 21 "java/lang/IndexOutOfBoundsException") (by decide +kernel), hZ.1.2.2.2.2.2.1.2.1⟩) (by decide) (by decide) (hts (.classLink RL 13 "java/lang/IllegalArgumentException") (by decide +kernel)) (va_Nw.use rfl (hZ.castE (by simp))) hce hcv hcl ?_
  refine W.eq (g2 := F0 m 21 ls [.ref q9]) rfl ?_
  refine lv_astore (lv' := [(6, .ref q9), (0, .ref (g 0)), (1, .int (nI k)), (2, .int xf), (3, .int xw), (4, .int xb), (5, .ref qo)]) hx hb dL_haunt_21 hl (by decide) rfl (fun ls hl => ?_)
  refine lv_iconst (v := 2) hx hb dL_haunt_23 (by decide) ?_
  exact w_i hx hb hr hlocks dL_haunt_24 hS (Nat.le_of_ble_eq_true rfl) (Nat.le_of_ble_eq_true rfl) rfl (⟨g, M, rfl, hM.kept (fun t e ht => hk9 _ (hM.lt ht)), ⟨hw, hp, hd⟩, fo, (hk9 _ hO.lt).trans hO, fun h => absurd (show (2 : Int32) = 0 from h) (by decide)⟩)
set_option maxHeartbeats 4000000 in
set_option maxRecDepth 100000 in
theorem w_haunt3 (l : Launch) (hl9 : l.stackTraces = false) (E : gE) (A : Nat → Prop) (g : Nat → Nat) (M : gM) (σ : Sg) (hv : VS σ) (hw : CW E g M σ) (hp : PW E M σ) (hd : CD M σ) (k : Nat) (hk9 : k < kR σ) (xf xw xb : Int32) (hok : ((1 ≤ xf ∧ xf ≤ 9) ∧ (0 ≤ xw ∧ xw ≤ 11) ∧ xw < xb ∧ xb ≤ 12)) (hfull : kG σ = 5) (qo : Nat) (hqo : ¬ A qo) (fo : Nat → Int64) : Met l yL_haunt wsL_haunt ({ frames := 30, cells := 4, slots := 60, locals := 1500 } : Room) (Pz E (fun q => A q ∨ q = qo) [.ref (g 0), .int (nI k), .int xf, .int xw, .int xb, .ref qo] (PO E A g M qo fo)) (QO E g qo A (3, 0, σ)) 4 60 (fun q => A q ∨ q = qo) := by
  refine e_entry (by decide) rfl (Nat.le_of_ble_eq_true rfl) ?_
  intro p e s m args below meth c hx hb hr hml hts hown hlocks hin hP hK hZ htab ls hl
  obtain ⟨hM, hA, hO⟩ := hP
  have hl : lv_has ls 7 [(0, .ref (g 0)), (1, .int (nI k)), (2, .int xf), (3, .int xw), (4, .int xb), (5, .ref qo)] := hl
  have hown : s.vm.findClass RL = some m.cls := hown
  have hS : va_S (fun q => A q ∨ q = qo) s.heap s.heap [] := va_S.rf
  have hM0 := hM.up (B := fun q => A q ∨ q = qo) (fun _ h => Or.inl h)
  refine lv_aload hx hb dL_haunt_0 (lv_at hl 5 rfl) ?_
  refine lv_iconst (v := 0) hx hb dL_haunt_2 (by decide) ?_
  refine lv_aload_n hx hb dL_haunt_3 rfl (lv_at hl 0 rfl) ?_
  refine lv_iload_n hx hb dL_haunt_4 rfl (lv_at hl 1 rfl) ?_
  refine lv_iload_n hx hb dL_haunt_5 rfl (lv_at hl 2 rfl) ?_
  refine lv_iload_n hx hb dL_haunt_6 rfl (lv_at hl 3 rfl) ?_
  refine lv_iload hx hb dL_haunt_7 (lv_at hl 4 rfl) ?_
  refine m_xV 4 [.int (nI k), .int xf, .int xw, .int xb] [.int 0, .ref qo] hx hb hml hown hts hK (x_haunt3 l hl9 E A g M σ hv hw k hk9 xf xw xb hok hfull) gL_haunt_X4_haunt rfl rfl rfl (by decide +kernel) rfl ⟨Nat.le_of_ble_eq_true rfl, Nat.le_of_ble_eq_true rfl⟩ hM (CW.x hw) rfl rfl (by exact hM) hl.1 (Nat.le_of_ble_eq_true rfl) ⟨Nat.le_of_ble_eq_true rfl, Nat.le_of_ble_eq_true rfl⟩ rfl dL_haunt_9 hZ (fun _ h => Or.inl h) hS (fun ce q9 H locs hz9 hk9 hS hce hcv hcl => ?_)
  refine vx_catch (own := RL) (name := "java/lang/IllegalStateException") hown [⟨0, 14, 17, 21⟩, ⟨0, 14, 21, 13⟩] ⟨0, 14, 25, 15⟩ [] (by rw [htab]; rfl) (fun z hz => by simp only [List.mem_cons, List.not_mem_nil, or_false] at hz; rcases hz with rfl | rfl <;> first | exact Or.inr ⟨by decide, _, hts (.classLink RL 21 "java/lang/IndexOutOfBoundsException") (by decide +kernel), hZ.1.2.2.2.2.2.1.2.2⟩ | exact Or.inr ⟨by decide, _, hts (.classLink RL 13 "java/lang/IllegalArgumentException") (by decide +kernel), hZ.1.2.2.2.2.2.1.1⟩) (by decide) (by decide) (hts (.classLink RL 15 "java/lang/IllegalStateException") (by decide +kernel)) (va_Nw.use rfl (hZ.castE (by simp))) hce hcv hcl ?_
  refine W.eq (g2 := F0 m 25 ls [.ref q9]) rfl ?_
  refine lv_astore (lv' := [(6, .ref q9), (0, .ref (g 0)), (1, .int (nI k)), (2, .int xf), (3, .int xw), (4, .int xb), (5, .ref qo)]) hx hb dL_haunt_25 hl (by decide) rfl (fun ls hl => ?_)
  refine lv_iconst (v := 3) hx hb dL_haunt_27 (by decide) ?_
  exact w_i hx hb hr hlocks dL_haunt_28 hS (Nat.le_of_ble_eq_true rfl) (Nat.le_of_ble_eq_true rfl) rfl (⟨g, M, rfl, hM.kept (fun t e ht => hk9 _ (hM.lt ht)), ⟨hw, hp, hd⟩, fo, (hk9 _ hO.lt).trans hO, fun h => absurd (show (3 : Int32) = 0 from h) (by decide)⟩)
set_option maxHeartbeats 4000000 in
set_option maxRecDepth 100000 in
theorem w_hauntOk (l : Launch) (E : gE) (A : Nat → Prop) (g : Nat → Nat) (M : gM) (σ : Sg) (hv : VS σ) (hw : CW E g M σ) (hp : PW E M σ) (hd : CD M σ) (k w : Nat) (hk9 : k < kR σ) (hw9 : w < 12) (xf xb : Int32) (hok : (1 ≤ xf ∧ xf ≤ 9) ∧ nI w < xb ∧ xb ≤ 12) (hn : kG σ < 5) (qo : Nat) (hqo : ¬ A qo) (fo : Nat → Int64) : Met l yL_haunt wsL_haunt ({ frames := 30, cells := 4, slots := 60, locals := 1500 } : Room) (Pz E (fun q => A q ∨ q = qo) [.ref (g 0), .int (nI k), .int xf, .int (nI w), .int xb, .ref qo] (PO E A g M qo fo)) (QO E g qo A (0, nI (kG σ), haS σ (nI k) xf (nI w) xb)) 4 60 (fun q => A q ∨ q = qo) := by
  refine e_entry (by decide) rfl (Nat.le_of_ble_eq_true rfl) ?_
  intro p e s m args below meth c hx hb hr hml hts hown hlocks hin hP hK hZ htab ls hl
  obtain ⟨hM, hA, hO⟩ := hP
  have hl : lv_has ls 7 [(0, .ref (g 0)), (1, .int (nI k)), (2, .int xf), (3, .int (nI w)), (4, .int xb), (5, .ref qo)] := hl
  have hown : s.vm.findClass RL = some m.cls := hown
  have hS : va_S (fun q => A q ∨ q = qo) s.heap s.heap [] := va_S.rf
  have hM0 := hM.up (B := fun q => A q ∨ q = qo) (fun _ h => Or.inl h)
  refine lv_aload hx hb dL_haunt_0 (lv_at hl 5 rfl) ?_
  refine lv_iconst (v := 0) hx hb dL_haunt_2 (by decide) ?_
  refine lv_aload_n hx hb dL_haunt_3 rfl (lv_at hl 0 rfl) ?_
  refine lv_iload_n hx hb dL_haunt_4 rfl (lv_at hl 1 rfl) ?_
  refine lv_iload_n hx hb dL_haunt_5 rfl (lv_at hl 2 rfl) ?_
  refine lv_iload_n hx hb dL_haunt_6 rfl (lv_at hl 3 rfl) ?_
  refine lv_iload hx hb dL_haunt_7 (lv_at hl 4 rfl) ?_
  refine m_zV 4 [.int (nI k), .int xf, .int (nI w), .int xb] [.int 0, .ref qo] hx hb hml hown hts hK (c_hauntOk l E A g M σ hv hw hp hd k w hk9 hw9 xf xb hok hn) gL_haunt_X4_haunt rfl rfl rfl (by decide +kernel) rfl ⟨Nat.le_of_ble_eq_true rfl, Nat.le_of_ble_eq_true rfl⟩ hM0 (CW.x hw) rfl rfl ⟨hM, hA⟩ hl.1 (Nat.le_of_ble_eq_true rfl) ⟨Nat.le_of_ble_eq_true rfl, Nat.le_of_ble_eq_true rfl⟩ rfl dL_haunt_9 hZ (fun _ h => Or.inl h) hS (fun _ _ h => Or.inl h) (fun _ h => Or.inl h) (fun H locs hQ hz hk hS => ?_)
  obtain ⟨g2, M, hg0, hM, hX⟩ := hQ
  have hO := (hk _ hO.lt hqo).trans hO
  refine W.eq (g2 := F0 m 12 ls [.int (nI (kG σ)), .int 0, .ref qo]) rfl ?_
  refine lv_i2l hx hb dL_haunt_12 rfl ?_
  refine o_last hx hb hK hO (Or.inr rfl) hS dL_haunt_13 (fun H locs f1 hO hf1 hz hk hS => ?_)
  have hM := hM.kept (fun t e ht => hk _ (fun h => hqo (h ▸ (hM.1 t e ht).2)))
  refine lv_goto (tgt := 29) hx hb dL_haunt_14 (by decide) ?_
  refine lv_iconst (v := 0) hx hb dL_haunt_29 (by decide) ?_
  exact w_i hx hb hr hlocks dL_haunt_30 hS (Nat.le_of_ble_eq_true rfl) (Nat.le_of_ble_eq_true rfl) rfl (⟨g2, M, hg0, hM, hX, f1, hO, fun _ => hf1.trans (rfl)⟩)
set_option maxHeartbeats 4000000 in
set_option maxRecDepth 100000 in
theorem w_at1 (l : Launch) (hl9 : l.stackTraces = false) (E : gE) (A : Nat → Prop) (g : Nat → Nat) (M : gM) (σ : Sg) (hv : VS σ) (hw : CW E g M σ) (hp : PW E M σ) (hd : CD M σ) (x y : Int32) (hbad : ¬ (0 ≤ x ∧ x < nI (kG σ))) (qo : Nat) (hqo : ¬ A qo) (fo : Nat → Int64) : Met l yL_at wsL_at ({ frames := 30, cells := 4, slots := 60, locals := 1500 } : Room) (Pz E (fun q => A q ∨ q = qo) [.ref (g 0), .int x, .int y, .ref qo] (PO E A g M qo fo)) (QO E g qo A (1, 0, σ)) 4 60 (fun q => A q ∨ q = qo) := by
  refine e_entry (by decide) rfl (Nat.le_of_ble_eq_true rfl) ?_
  intro p e s m args below meth c hx hb hr hml hts hown hlocks hin hP hK hZ htab ls hl
  obtain ⟨hM, hA, hO⟩ := hP
  have hl : lv_has ls 5 [(0, .ref (g 0)), (1, .int x), (2, .int y), (3, .ref qo)] := hl
  have hown : s.vm.findClass RL = some m.cls := hown
  have hS : va_S (fun q => A q ∨ q = qo) s.heap s.heap [] := va_S.rf
  have hM0 := hM.up (B := fun q => A q ∨ q = qo) (fun _ h => Or.inl h)
  refine lv_aload_n hx hb dL_at_0 rfl (lv_at hl 3 rfl) ?_
  refine lv_iconst (v := 0) hx hb dL_at_1 (by decide) ?_
  refine lv_aload_n hx hb dL_at_2 rfl (lv_at hl 0 rfl) ?_
  refine lv_iload_n hx hb dL_at_3 rfl (lv_at hl 1 rfl) ?_
  refine lv_iload_n hx hb dL_at_4 rfl (lv_at hl 2 rfl) ?_
  refine m_xV 2 [.int x, .int y] [.int 0, .ref qo] hx hb hml hown hts hK (x_at1 l hl9 E A g M σ hv hw x y hbad) gL_at_X4_at rfl rfl rfl (by decide +kernel) rfl ⟨Nat.le_of_ble_eq_true rfl, Nat.le_of_ble_eq_true rfl⟩ hM (CW.x hw) rfl rfl (by exact hM) hl.1 (Nat.le_of_ble_eq_true rfl) ⟨Nat.le_of_ble_eq_true rfl, Nat.le_of_ble_eq_true rfl⟩ rfl dL_at_5 hZ (fun _ h => Or.inl h) hS (fun ce q9 H locs hz9 hk9 hS hce hcv hcl => ?_)
  refine vx_catch (own := RL) (name := "java/lang/IndexOutOfBoundsException") hown [] ⟨0, 10, 13, 21⟩ [] (by rw [htab]; rfl) (fun z hz => nomatch hz) (by decide) (by decide) (hts (.classLink RL 21 "java/lang/IndexOutOfBoundsException") (by decide +kernel)) (va_Nw.use rfl (hZ.castE (by simp))) hce hcv hcl ?_
  refine W.eq (g2 := F0 m 13 ls [.ref q9]) rfl ?_
  refine lv_astore (lv' := [(4, .ref q9), (0, .ref (g 0)), (1, .int x), (2, .int y), (3, .ref qo)]) hx hb dL_at_13 hl (by decide) rfl (fun ls hl => ?_)
  refine lv_iconst (v := 1) hx hb dL_at_15 (by decide) ?_
  exact w_i hx hb hr hlocks dL_at_16 hS (Nat.le_of_ble_eq_true rfl) (Nat.le_of_ble_eq_true rfl) rfl (⟨g, M, rfl, hM.kept (fun t e ht => hk9 _ (hM.lt ht)), ⟨hw, hp, hd⟩, fo, (hk9 _ hO.lt).trans hO, fun h => absurd (show (1 : Int32) = 0 from h) (by decide)⟩)
set_option maxHeartbeats 4000000 in
set_option maxRecDepth 100000 in
theorem w_at2 (l : Launch) (hl9 : l.stackTraces = false) (E : gE) (A : Nat → Prop) (g : Nat → Nat) (M : gM) (σ : Sg) (hv : VS σ) (hw : CW E g M σ) (hp : PW E M σ) (hd : CD M σ) (k : Nat) (hk9 : k < kG σ) (y : Int32) (hbad : ¬ (0 ≤ y ∧ y ≤ 11)) (qo : Nat) (hqo : ¬ A qo) (fo : Nat → Int64) : Met l yL_at wsL_at ({ frames := 30, cells := 4, slots := 60, locals := 1500 } : Room) (Pz E (fun q => A q ∨ q = qo) [.ref (g 0), .int (nI k), .int y, .ref qo] (PO E A g M qo fo)) (QO E g qo A (1, 0, σ)) 4 60 (fun q => A q ∨ q = qo) := by
  refine e_entry (by decide) rfl (Nat.le_of_ble_eq_true rfl) ?_
  intro p e s m args below meth c hx hb hr hml hts hown hlocks hin hP hK hZ htab ls hl
  obtain ⟨hM, hA, hO⟩ := hP
  have hl : lv_has ls 5 [(0, .ref (g 0)), (1, .int (nI k)), (2, .int y), (3, .ref qo)] := hl
  have hown : s.vm.findClass RL = some m.cls := hown
  have hS : va_S (fun q => A q ∨ q = qo) s.heap s.heap [] := va_S.rf
  have hM0 := hM.up (B := fun q => A q ∨ q = qo) (fun _ h => Or.inl h)
  refine lv_aload_n hx hb dL_at_0 rfl (lv_at hl 3 rfl) ?_
  refine lv_iconst (v := 0) hx hb dL_at_1 (by decide) ?_
  refine lv_aload_n hx hb dL_at_2 rfl (lv_at hl 0 rfl) ?_
  refine lv_iload_n hx hb dL_at_3 rfl (lv_at hl 1 rfl) ?_
  refine lv_iload_n hx hb dL_at_4 rfl (lv_at hl 2 rfl) ?_
  refine m_xV 2 [.int (nI k), .int y] [.int 0, .ref qo] hx hb hml hown hts hK (x_at2 l hl9 E A g M σ hv hw k hk9 y hbad) gL_at_X4_at rfl rfl rfl (by decide +kernel) rfl ⟨Nat.le_of_ble_eq_true rfl, Nat.le_of_ble_eq_true rfl⟩ hM (CW.x hw) rfl rfl (by exact hM) hl.1 (Nat.le_of_ble_eq_true rfl) ⟨Nat.le_of_ble_eq_true rfl, Nat.le_of_ble_eq_true rfl⟩ rfl dL_at_5 hZ (fun _ h => Or.inl h) hS (fun ce q9 H locs hz9 hk9 hS hce hcv hcl => ?_)
  refine vx_catch (own := RL) (name := "java/lang/IndexOutOfBoundsException") hown [] ⟨0, 10, 13, 21⟩ [] (by rw [htab]; rfl) (fun z hz => nomatch hz) (by decide) (by decide) (hts (.classLink RL 21 "java/lang/IndexOutOfBoundsException") (by decide +kernel)) (va_Nw.use rfl (hZ.castE (by simp))) hce hcv hcl ?_
  refine W.eq (g2 := F0 m 13 ls [.ref q9]) rfl ?_
  refine lv_astore (lv' := [(4, .ref q9), (0, .ref (g 0)), (1, .int (nI k)), (2, .int y), (3, .ref qo)]) hx hb dL_at_13 hl (by decide) rfl (fun ls hl => ?_)
  refine lv_iconst (v := 1) hx hb dL_at_15 (by decide) ?_
  exact w_i hx hb hr hlocks dL_at_16 hS (Nat.le_of_ble_eq_true rfl) (Nat.le_of_ble_eq_true rfl) rfl (⟨g, M, rfl, hM.kept (fun t e ht => hk9 _ (hM.lt ht)), ⟨hw, hp, hd⟩, fo, (hk9 _ hO.lt).trans hO, fun h => absurd (show (1 : Int32) = 0 from h) (by decide)⟩)
set_option maxHeartbeats 4000000 in
set_option maxRecDepth 100000 in
theorem w_at (l : Launch) (E : gE) (A : Nat → Prop) (g : Nat → Nat) (M : gM) (σ : Sg) (hv : VS σ) (hw : CW E g M σ) (hp : PW E M σ) (hd : CD M σ) (i j : Nat) (hi : i < kG σ) (hj : j < 12) (qo : Nat) (hqo : ¬ A qo) (fo : Nat → Int64) : Met l yL_at wsL_at ({ frames := 30, cells := 4, slots := 60, locals := 1500 } : Room) (Pz E (fun q => A q ∨ q = qo) [.ref (g 0), .int (nI i), .int (nI j), .ref qo] (PO E A g M qo fo)) (QO E g qo A (0, plc σ i j, σ)) 4 60 (fun q => A q ∨ q = qo) := by
  refine e_entry (by decide) rfl (Nat.le_of_ble_eq_true rfl) ?_
  intro p e s m args below meth c hx hb hr hml hts hown hlocks hin hP hK hZ htab ls hl
  obtain ⟨hM, hA, hO⟩ := hP
  have hl : lv_has ls 5 [(0, .ref (g 0)), (1, .int (nI i)), (2, .int (nI j)), (3, .ref qo)] := hl
  have hown : s.vm.findClass RL = some m.cls := hown
  have hS : va_S (fun q => A q ∨ q = qo) s.heap s.heap [] := va_S.rf
  have hM0 := hM.up (B := fun q => A q ∨ q = qo) (fun _ h => Or.inl h)
  refine lv_aload_n hx hb dL_at_0 rfl (lv_at hl 3 rfl) ?_
  refine lv_iconst (v := 0) hx hb dL_at_1 (by decide) ?_
  refine lv_aload_n hx hb dL_at_2 rfl (lv_at hl 0 rfl) ?_
  refine lv_iload_n hx hb dL_at_3 rfl (lv_at hl 1 rfl) ?_
  refine lv_iload_n hx hb dL_at_4 rfl (lv_at hl 2 rfl) ?_
  refine m_cV 2 [.int (nI i), .int (nI j)] [.int 0, .ref qo] hx hb hml hown hts hK (c_at l E A g M σ hv hw hp i j hi hj) gL_at_X4_at rfl rfl rfl (by decide +kernel) rfl ⟨Nat.le_of_ble_eq_true rfl, Nat.le_of_ble_eq_true rfl⟩ hM0 (CW.x hw) rfl rfl hM hl.1 (Nat.le_of_ble_eq_true rfl) ⟨Nat.le_of_ble_eq_true rfl, Nat.le_of_ble_eq_true rfl⟩ rfl dL_at_5 ?_
  refine W.eq (g2 := F0 m 8 ls [.int (plc σ i j), .int 0, .ref qo]) rfl ?_
  refine lv_i2l hx hb dL_at_8 rfl ?_
  refine o_last hx hb hK hO (Or.inr rfl) hS dL_at_9 (fun H locs f1 hO hf1 hz hk hS => ?_)
  have hM := hM.kept (fun t e ht => hk _ (fun h => hqo (h ▸ (hM.1 t e ht).2)))
  refine lv_goto (tgt := 17) hx hb dL_at_10 (by decide) ?_
  refine lv_iconst (v := 0) hx hb dL_at_17 (by decide) ?_
  exact w_i hx hb hr hlocks dL_at_18 hS (Nat.le_of_ble_eq_true rfl) (Nat.le_of_ble_eq_true rfl) rfl (⟨g, M, rfl, hM, ⟨hw, hp, hd⟩, f1, hO, fun _ => hf1.trans (rfl)⟩)
set_option maxHeartbeats 4000000 in
set_option maxRecDepth 100000 in
theorem w_haunting1 (l : Launch) (hl9 : l.stackTraces = false) (E : gE) (A : Nat → Prop) (g : Nat → Nat) (M : gM) (σ : Sg) (hv : VS σ) (hw : CW E g M σ) (hp : PW E M σ) (hd : CD M σ) (x y : Int32) (hbad : ¬ (0 ≤ x ∧ x < nI (kR σ))) (qo : Nat) (hqo : ¬ A qo) (fo : Nat → Int64) : Met l yL_haunting wsL_haunting ({ frames := 30, cells := 4, slots := 60, locals := 1500 } : Room) (Pz E (fun q => A q ∨ q = qo) [.ref (g 0), .int x, .int y, .ref qo] (PO E A g M qo fo)) (QO E g qo A (1, 0, σ)) 4 60 (fun q => A q ∨ q = qo) := by
  refine e_entry (by decide) rfl (Nat.le_of_ble_eq_true rfl) ?_
  intro p e s m args below meth c hx hb hr hml hts hown hlocks hin hP hK hZ htab ls hl
  obtain ⟨hM, hA, hO⟩ := hP
  have hl : lv_has ls 5 [(0, .ref (g 0)), (1, .int x), (2, .int y), (3, .ref qo)] := hl
  have hown : s.vm.findClass RL = some m.cls := hown
  have hS : va_S (fun q => A q ∨ q = qo) s.heap s.heap [] := va_S.rf
  have hM0 := hM.up (B := fun q => A q ∨ q = qo) (fun _ h => Or.inl h)
  refine lv_aload_n hx hb dL_haunting_0 rfl (lv_at hl 3 rfl) ?_
  refine lv_iconst (v := 0) hx hb dL_haunting_1 (by decide) ?_
  refine lv_aload_n hx hb dL_haunting_2 rfl (lv_at hl 0 rfl) ?_
  refine lv_iload_n hx hb dL_haunting_3 rfl (lv_at hl 1 rfl) ?_
  refine lv_iload_n hx hb dL_haunting_4 rfl (lv_at hl 2 rfl) ?_
  refine m_xV 2 [.int x, .int y] [.int 0, .ref qo] hx hb hml hown hts hK (x_haunting1 l hl9 E A g M σ hv hw x y hbad) gL_haunting_X4_haunting rfl rfl rfl (by decide +kernel) rfl ⟨Nat.le_of_ble_eq_true rfl, Nat.le_of_ble_eq_true rfl⟩ hM (CW.x hw) rfl rfl (by exact hM) hl.1 (Nat.le_of_ble_eq_true rfl) ⟨Nat.le_of_ble_eq_true rfl, Nat.le_of_ble_eq_true rfl⟩ rfl dL_haunting_5 hZ (fun _ h => Or.inl h) hS (fun ce q9 H locs hz9 hk9 hS hce hcv hcl => ?_)
  refine vx_catch (own := RL) (name := "java/lang/IndexOutOfBoundsException") hown [] ⟨0, 10, 13, 21⟩ [] (by rw [htab]; rfl) (fun z hz => nomatch hz) (by decide) (by decide) (hts (.classLink RL 21 "java/lang/IndexOutOfBoundsException") (by decide +kernel)) (va_Nw.use rfl (hZ.castE (by simp))) hce hcv hcl ?_
  refine W.eq (g2 := F0 m 13 ls [.ref q9]) rfl ?_
  refine lv_astore (lv' := [(4, .ref q9), (0, .ref (g 0)), (1, .int x), (2, .int y), (3, .ref qo)]) hx hb dL_haunting_13 hl (by decide) rfl (fun ls hl => ?_)
  refine lv_iconst (v := 1) hx hb dL_haunting_15 (by decide) ?_
  exact w_i hx hb hr hlocks dL_haunting_16 hS (Nat.le_of_ble_eq_true rfl) (Nat.le_of_ble_eq_true rfl) rfl (⟨g, M, rfl, hM.kept (fun t e ht => hk9 _ (hM.lt ht)), ⟨hw, hp, hd⟩, fo, (hk9 _ hO.lt).trans hO, fun h => absurd (show (1 : Int32) = 0 from h) (by decide)⟩)
set_option maxHeartbeats 4000000 in
set_option maxRecDepth 100000 in
theorem w_haunting2 (l : Launch) (hl9 : l.stackTraces = false) (E : gE) (A : Nat → Prop) (g : Nat → Nat) (M : gM) (σ : Sg) (hv : VS σ) (hw : CW E g M σ) (hp : PW E M σ) (hd : CD M σ) (k : Nat) (hk9 : k < kR σ) (y : Int32) (hbad : ¬ (-1 ≤ y ∧ y ≤ 11)) (qo : Nat) (hqo : ¬ A qo) (fo : Nat → Int64) : Met l yL_haunting wsL_haunting ({ frames := 30, cells := 4, slots := 60, locals := 1500 } : Room) (Pz E (fun q => A q ∨ q = qo) [.ref (g 0), .int (nI k), .int y, .ref qo] (PO E A g M qo fo)) (QO E g qo A (1, 0, σ)) 4 60 (fun q => A q ∨ q = qo) := by
  refine e_entry (by decide) rfl (Nat.le_of_ble_eq_true rfl) ?_
  intro p e s m args below meth c hx hb hr hml hts hown hlocks hin hP hK hZ htab ls hl
  obtain ⟨hM, hA, hO⟩ := hP
  have hl : lv_has ls 5 [(0, .ref (g 0)), (1, .int (nI k)), (2, .int y), (3, .ref qo)] := hl
  have hown : s.vm.findClass RL = some m.cls := hown
  have hS : va_S (fun q => A q ∨ q = qo) s.heap s.heap [] := va_S.rf
  have hM0 := hM.up (B := fun q => A q ∨ q = qo) (fun _ h => Or.inl h)
  refine lv_aload_n hx hb dL_haunting_0 rfl (lv_at hl 3 rfl) ?_
  refine lv_iconst (v := 0) hx hb dL_haunting_1 (by decide) ?_
  refine lv_aload_n hx hb dL_haunting_2 rfl (lv_at hl 0 rfl) ?_
  refine lv_iload_n hx hb dL_haunting_3 rfl (lv_at hl 1 rfl) ?_
  refine lv_iload_n hx hb dL_haunting_4 rfl (lv_at hl 2 rfl) ?_
  refine m_xV 2 [.int (nI k), .int y] [.int 0, .ref qo] hx hb hml hown hts hK (x_haunting2 l hl9 E A g M σ hv hw k hk9 y hbad) gL_haunting_X4_haunting rfl rfl rfl (by decide +kernel) rfl ⟨Nat.le_of_ble_eq_true rfl, Nat.le_of_ble_eq_true rfl⟩ hM (CW.x hw) rfl rfl (by exact hM) hl.1 (Nat.le_of_ble_eq_true rfl) ⟨Nat.le_of_ble_eq_true rfl, Nat.le_of_ble_eq_true rfl⟩ rfl dL_haunting_5 hZ (fun _ h => Or.inl h) hS (fun ce q9 H locs hz9 hk9 hS hce hcv hcl => ?_)
  refine vx_catch (own := RL) (name := "java/lang/IndexOutOfBoundsException") hown [] ⟨0, 10, 13, 21⟩ [] (by rw [htab]; rfl) (fun z hz => nomatch hz) (by decide) (by decide) (hts (.classLink RL 21 "java/lang/IndexOutOfBoundsException") (by decide +kernel)) (va_Nw.use rfl (hZ.castE (by simp))) hce hcv hcl ?_
  refine W.eq (g2 := F0 m 13 ls [.ref q9]) rfl ?_
  refine lv_astore (lv' := [(4, .ref q9), (0, .ref (g 0)), (1, .int (nI k)), (2, .int y), (3, .ref qo)]) hx hb dL_haunting_13 hl (by decide) rfl (fun ls hl => ?_)
  refine lv_iconst (v := 1) hx hb dL_haunting_15 (by decide) ?_
  exact w_i hx hb hr hlocks dL_haunting_16 hS (Nat.le_of_ble_eq_true rfl) (Nat.le_of_ble_eq_true rfl) rfl (⟨g, M, rfl, hM.kept (fun t e ht => hk9 _ (hM.lt ht)), ⟨hw, hp, hd⟩, fo, (hk9 _ hO.lt).trans hO, fun h => absurd (show (1 : Int32) = 0 from h) (by decide)⟩)
set_option maxHeartbeats 4000000 in
set_option maxRecDepth 100000 in
theorem w_hauntingN (l : Launch) (E : gE) (A : Nat → Prop) (g : Nat → Nat) (M : gM) (σ : Sg) (hv : VS σ) (hw : CW E g M σ) (hp : PW E M σ) (hd : CD M σ) (k : Nat) (hk9 : k < kR σ) (qo : Nat) (hqo : ¬ A qo) (fo : Nat → Int64) : Met l yL_haunting wsL_haunting ({ frames := 30, cells := 4, slots := 60, locals := 1500 } : Room) (Pz E (fun q => A q ∨ q = qo) [.ref (g 0), .int (nI k), .int (-1), .ref qo] (PO E A g M qo fo)) (QO E g qo A (0, hON σ (nI k) (-1) 12, σ)) 4 60 (fun q => A q ∨ q = qo) := by
  refine e_entry (by decide) rfl (Nat.le_of_ble_eq_true rfl) ?_
  intro p e s m args below meth c hx hb hr hml hts hown hlocks hin hP hK hZ htab ls hl
  obtain ⟨hM, hA, hO⟩ := hP
  have hl : lv_has ls 5 [(0, .ref (g 0)), (1, .int (nI k)), (2, .int (-1)), (3, .ref qo)] := hl
  have hown : s.vm.findClass RL = some m.cls := hown
  have hS : va_S (fun q => A q ∨ q = qo) s.heap s.heap [] := va_S.rf
  have hM0 := hM.up (B := fun q => A q ∨ q = qo) (fun _ h => Or.inl h)
  refine lv_aload_n hx hb dL_haunting_0 rfl (lv_at hl 3 rfl) ?_
  refine lv_iconst (v := 0) hx hb dL_haunting_1 (by decide) ?_
  refine lv_aload_n hx hb dL_haunting_2 rfl (lv_at hl 0 rfl) ?_
  refine lv_iload_n hx hb dL_haunting_3 rfl (lv_at hl 1 rfl) ?_
  refine lv_iload_n hx hb dL_haunting_4 rfl (lv_at hl 2 rfl) ?_
  refine m_cV 2 [.int (nI k), .int (-1)] [.int 0, .ref qo] hx hb hml hown hts hK (c_haunting1 l E A g M σ hv hw hp k hk9) gL_haunting_X4_haunting rfl rfl rfl (by decide +kernel) rfl ⟨Nat.le_of_ble_eq_true rfl, Nat.le_of_ble_eq_true rfl⟩ hM0 (CW.x hw) rfl rfl hM hl.1 (Nat.le_of_ble_eq_true rfl) ⟨Nat.le_of_ble_eq_true rfl, Nat.le_of_ble_eq_true rfl⟩ rfl dL_haunting_5 ?_
  refine W.eq (g2 := F0 m 8 ls [.int (hON σ (nI k) (-1) 12), .int 0, .ref qo]) rfl ?_
  refine lv_i2l hx hb dL_haunting_8 rfl ?_
  refine o_last hx hb hK hO (Or.inr rfl) hS dL_haunting_9 (fun H locs f1 hO hf1 hz hk hS => ?_)
  have hM := hM.kept (fun t e ht => hk _ (fun h => hqo (h ▸ (hM.1 t e ht).2)))
  refine lv_goto (tgt := 17) hx hb dL_haunting_10 (by decide) ?_
  refine lv_iconst (v := 0) hx hb dL_haunting_17 (by decide) ?_
  exact w_i hx hb hr hlocks dL_haunting_18 hS (Nat.le_of_ble_eq_true rfl) (Nat.le_of_ble_eq_true rfl) rfl (⟨g, M, rfl, hM, ⟨hw, hp, hd⟩, f1, hO, fun _ => hf1.trans (rfl)⟩)
set_option maxHeartbeats 4000000 in
set_option maxRecDepth 100000 in
theorem w_hauntingH (l : Launch) (E : gE) (A : Nat → Prop) (g : Nat → Nat) (M : gM) (σ : Sg) (hv : VS σ) (hw : CW E g M σ) (hp : PW E M σ) (hd : CD M σ) (k j : Nat) (hk9 : k < kR σ) (hj : j < 12) (qo : Nat) (hqo : ¬ A qo) (fo : Nat → Int64) : Met l yL_haunting wsL_haunting ({ frames := 30, cells := 4, slots := 60, locals := 1500 } : Room) (Pz E (fun q => A q ∨ q = qo) [.ref (g 0), .int (nI k), .int (nI j), .ref qo] (PO E A g M qo fo)) (QO E g qo A (0, hIH σ (nI k) j (-1) (kG σ), σ)) 4 60 (fun q => A q ∨ q = qo) := by
  refine e_entry (by decide) rfl (Nat.le_of_ble_eq_true rfl) ?_
  intro p e s m args below meth c hx hb hr hml hts hown hlocks hin hP hK hZ htab ls hl
  obtain ⟨hM, hA, hO⟩ := hP
  have hl : lv_has ls 5 [(0, .ref (g 0)), (1, .int (nI k)), (2, .int (nI j)), (3, .ref qo)] := hl
  have hown : s.vm.findClass RL = some m.cls := hown
  have hS : va_S (fun q => A q ∨ q = qo) s.heap s.heap [] := va_S.rf
  have hM0 := hM.up (B := fun q => A q ∨ q = qo) (fun _ h => Or.inl h)
  refine lv_aload_n hx hb dL_haunting_0 rfl (lv_at hl 3 rfl) ?_
  refine lv_iconst (v := 0) hx hb dL_haunting_1 (by decide) ?_
  refine lv_aload_n hx hb dL_haunting_2 rfl (lv_at hl 0 rfl) ?_
  refine lv_iload_n hx hb dL_haunting_3 rfl (lv_at hl 1 rfl) ?_
  refine lv_iload_n hx hb dL_haunting_4 rfl (lv_at hl 2 rfl) ?_
  refine m_cV 2 [.int (nI k), .int (nI j)] [.int 0, .ref qo] hx hb hml hown hts hK (c_haunting2 l E A g M σ hv hw hp k j hk9 hj) gL_haunting_X4_haunting rfl rfl rfl (by decide +kernel) rfl ⟨Nat.le_of_ble_eq_true rfl, Nat.le_of_ble_eq_true rfl⟩ hM0 (CW.x hw) rfl rfl hM hl.1 (Nat.le_of_ble_eq_true rfl) ⟨Nat.le_of_ble_eq_true rfl, Nat.le_of_ble_eq_true rfl⟩ rfl dL_haunting_5 ?_
  refine W.eq (g2 := F0 m 8 ls [.int (hIH σ (nI k) j (-1) (kG σ)), .int 0, .ref qo]) rfl ?_
  refine lv_i2l hx hb dL_haunting_8 rfl ?_
  refine o_last hx hb hK hO (Or.inr rfl) hS dL_haunting_9 (fun H locs f1 hO hf1 hz hk hS => ?_)
  have hM := hM.kept (fun t e ht => hk _ (fun h => hqo (h ▸ (hM.1 t e ht).2)))
  refine lv_goto (tgt := 17) hx hb dL_haunting_10 (by decide) ?_
  refine lv_iconst (v := 0) hx hb dL_haunting_17 (by decide) ?_
  exact w_i hx hb hr hlocks dL_haunting_18 hS (Nat.le_of_ble_eq_true rfl) (Nat.le_of_ble_eq_true rfl) rfl (⟨g, M, rfl, hM, ⟨hw, hp, hd⟩, f1, hO, fun _ => hf1.trans (rfl)⟩)
set_option maxHeartbeats 4000000 in
set_option maxRecDepth 100000 in
theorem w_room1 (l : Launch) (hl9 : l.stackTraces = false) (E : gE) (A : Nat → Prop) (g : Nat → Nat) (M : gM) (σ : Sg) (hv : VS σ) (hw : CW E g M σ) (hp : PW E M σ) (hd : CD M σ) (x y : Int32) (hbad : ¬ (0 ≤ x ∧ x < nI (kR σ))) (qo : Nat) (hqo : ¬ A qo) (fo : Nat → Int64) : Met l yL_room wsL_room ({ frames := 30, cells := 4, slots := 60, locals := 1500 } : Room) (Pz E (fun q => A q ∨ q = qo) [.ref (g 0), .int x, .int y, .ref qo] (PO E A g M qo fo)) (QO E g qo A (1, 0, σ)) 4 60 (fun q => A q ∨ q = qo) := by
  refine e_entry (by decide) rfl (Nat.le_of_ble_eq_true rfl) ?_
  intro p e s m args below meth c hx hb hr hml hts hown hlocks hin hP hK hZ htab ls hl
  obtain ⟨hM, hA, hO⟩ := hP
  have hl : lv_has ls 5 [(0, .ref (g 0)), (1, .int x), (2, .int y), (3, .ref qo)] := hl
  have hown : s.vm.findClass RL = some m.cls := hown
  have hS : va_S (fun q => A q ∨ q = qo) s.heap s.heap [] := va_S.rf
  have hM0 := hM.up (B := fun q => A q ∨ q = qo) (fun _ h => Or.inl h)
  refine lv_aload_n hx hb dL_room_0 rfl (lv_at hl 3 rfl) ?_
  refine lv_iconst (v := 0) hx hb dL_room_1 (by decide) ?_
  refine lv_aload_n hx hb dL_room_2 rfl (lv_at hl 0 rfl) ?_
  refine lv_iload_n hx hb dL_room_3 rfl (lv_at hl 1 rfl) ?_
  refine lv_iload_n hx hb dL_room_4 rfl (lv_at hl 2 rfl) ?_
  refine m_xV 2 [.int x, .int y] [.int 0, .ref qo] hx hb hml hown hts hK (x_room1 l hl9 E A g M σ hv hw x y hbad) gL_room_X4_room rfl rfl rfl (by decide +kernel) rfl ⟨Nat.le_of_ble_eq_true rfl, Nat.le_of_ble_eq_true rfl⟩ hM (CW.x hw) rfl rfl (by exact hM) hl.1 (Nat.le_of_ble_eq_true rfl) ⟨Nat.le_of_ble_eq_true rfl, Nat.le_of_ble_eq_true rfl⟩ rfl dL_room_5 hZ (fun _ h => Or.inl h) hS (fun ce q9 H locs hz9 hk9 hS hce hcv hcl => ?_)
  refine vx_catch (own := RL) (name := "java/lang/IndexOutOfBoundsException") hown [] ⟨0, 10, 13, 21⟩ [] (by rw [htab]; rfl) (fun z hz => nomatch hz) (by decide) (by decide) (hts (.classLink RL 21 "java/lang/IndexOutOfBoundsException") (by decide +kernel)) (va_Nw.use rfl (hZ.castE (by simp))) hce hcv hcl ?_
  refine W.eq (g2 := F0 m 13 ls [.ref q9]) rfl ?_
  refine lv_astore (lv' := [(4, .ref q9), (0, .ref (g 0)), (1, .int x), (2, .int y), (3, .ref qo)]) hx hb dL_room_13 hl (by decide) rfl (fun ls hl => ?_)
  refine lv_iconst (v := 1) hx hb dL_room_15 (by decide) ?_
  exact w_i hx hb hr hlocks dL_room_16 hS (Nat.le_of_ble_eq_true rfl) (Nat.le_of_ble_eq_true rfl) rfl (⟨g, M, rfl, hM.kept (fun t e ht => hk9 _ (hM.lt ht)), ⟨hw, hp, hd⟩, fo, (hk9 _ hO.lt).trans hO, fun h => absurd (show (1 : Int32) = 0 from h) (by decide)⟩)
set_option maxHeartbeats 4000000 in
set_option maxRecDepth 100000 in
theorem w_room2 (l : Launch) (hl9 : l.stackTraces = false) (E : gE) (A : Nat → Prop) (g : Nat → Nat) (M : gM) (σ : Sg) (hv : VS σ) (hw : CW E g M σ) (hp : PW E M σ) (hd : CD M σ) (k : Nat) (hk9 : k < kR σ) (y : Int32) (hbad : ¬ (0 ≤ y ∧ y ≤ 5)) (qo : Nat) (hqo : ¬ A qo) (fo : Nat → Int64) : Met l yL_room wsL_room ({ frames := 30, cells := 4, slots := 60, locals := 1500 } : Room) (Pz E (fun q => A q ∨ q = qo) [.ref (g 0), .int (nI k), .int y, .ref qo] (PO E A g M qo fo)) (QO E g qo A (1, 0, σ)) 4 60 (fun q => A q ∨ q = qo) := by
  refine e_entry (by decide) rfl (Nat.le_of_ble_eq_true rfl) ?_
  intro p e s m args below meth c hx hb hr hml hts hown hlocks hin hP hK hZ htab ls hl
  obtain ⟨hM, hA, hO⟩ := hP
  have hl : lv_has ls 5 [(0, .ref (g 0)), (1, .int (nI k)), (2, .int y), (3, .ref qo)] := hl
  have hown : s.vm.findClass RL = some m.cls := hown
  have hS : va_S (fun q => A q ∨ q = qo) s.heap s.heap [] := va_S.rf
  have hM0 := hM.up (B := fun q => A q ∨ q = qo) (fun _ h => Or.inl h)
  refine lv_aload_n hx hb dL_room_0 rfl (lv_at hl 3 rfl) ?_
  refine lv_iconst (v := 0) hx hb dL_room_1 (by decide) ?_
  refine lv_aload_n hx hb dL_room_2 rfl (lv_at hl 0 rfl) ?_
  refine lv_iload_n hx hb dL_room_3 rfl (lv_at hl 1 rfl) ?_
  refine lv_iload_n hx hb dL_room_4 rfl (lv_at hl 2 rfl) ?_
  refine m_xV 2 [.int (nI k), .int y] [.int 0, .ref qo] hx hb hml hown hts hK (x_room2 l hl9 E A g M σ hv hw k hk9 y hbad) gL_room_X4_room rfl rfl rfl (by decide +kernel) rfl ⟨Nat.le_of_ble_eq_true rfl, Nat.le_of_ble_eq_true rfl⟩ hM (CW.x hw) rfl rfl (by exact hM) hl.1 (Nat.le_of_ble_eq_true rfl) ⟨Nat.le_of_ble_eq_true rfl, Nat.le_of_ble_eq_true rfl⟩ rfl dL_room_5 hZ (fun _ h => Or.inl h) hS (fun ce q9 H locs hz9 hk9 hS hce hcv hcl => ?_)
  refine vx_catch (own := RL) (name := "java/lang/IndexOutOfBoundsException") hown [] ⟨0, 10, 13, 21⟩ [] (by rw [htab]; rfl) (fun z hz => nomatch hz) (by decide) (by decide) (hts (.classLink RL 21 "java/lang/IndexOutOfBoundsException") (by decide +kernel)) (va_Nw.use rfl (hZ.castE (by simp))) hce hcv hcl ?_
  refine W.eq (g2 := F0 m 13 ls [.ref q9]) rfl ?_
  refine lv_astore (lv' := [(4, .ref q9), (0, .ref (g 0)), (1, .int (nI k)), (2, .int y), (3, .ref qo)]) hx hb dL_room_13 hl (by decide) rfl (fun ls hl => ?_)
  refine lv_iconst (v := 1) hx hb dL_room_15 (by decide) ?_
  exact w_i hx hb hr hlocks dL_room_16 hS (Nat.le_of_ble_eq_true rfl) (Nat.le_of_ble_eq_true rfl) rfl (⟨g, M, rfl, hM.kept (fun t e ht => hk9 _ (hM.lt ht)), ⟨hw, hp, hd⟩, fo, (hk9 _ hO.lt).trans hO, fun h => absurd (show (1 : Int32) = 0 from h) (by decide)⟩)
set_option maxHeartbeats 4000000 in
set_option maxRecDepth 100000 in
theorem w_room (l : Launch) (E : gE) (A : Nat → Prop) (g : Nat → Nat) (M : gM) (σ : Sg) (hv : VS σ) (hw : CW E g M σ) (hp : PW E M σ) (hd : CD M σ) (k w : Nat) (hk9 : k < kR σ) (hw9 : w < 6) (qo : Nat) (hqo : ¬ A qo) (fo : Nat → Int64) : Met l yL_room wsL_room ({ frames := 30, cells := 4, slots := 60, locals := 1500 } : Room) (Pz E (fun q => A q ∨ q = qo) [.ref (g 0), .int (nI k), .int (nI w), .ref qo] (PO E A g M qo fo)) (QO E g qo A (0, rmT σ k w, σ)) 4 60 (fun q => A q ∨ q = qo) := by
  refine e_entry (by decide) rfl (Nat.le_of_ble_eq_true rfl) ?_
  intro p e s m args below meth c hx hb hr hml hts hown hlocks hin hP hK hZ htab ls hl
  obtain ⟨hM, hA, hO⟩ := hP
  have hl : lv_has ls 5 [(0, .ref (g 0)), (1, .int (nI k)), (2, .int (nI w)), (3, .ref qo)] := hl
  have hown : s.vm.findClass RL = some m.cls := hown
  have hS : va_S (fun q => A q ∨ q = qo) s.heap s.heap [] := va_S.rf
  have hM0 := hM.up (B := fun q => A q ∨ q = qo) (fun _ h => Or.inl h)
  refine lv_aload_n hx hb dL_room_0 rfl (lv_at hl 3 rfl) ?_
  refine lv_iconst (v := 0) hx hb dL_room_1 (by decide) ?_
  refine lv_aload_n hx hb dL_room_2 rfl (lv_at hl 0 rfl) ?_
  refine lv_iload_n hx hb dL_room_3 rfl (lv_at hl 1 rfl) ?_
  refine lv_iload_n hx hb dL_room_4 rfl (lv_at hl 2 rfl) ?_
  refine m_cV 2 [.int (nI k), .int (nI w)] [.int 0, .ref qo] hx hb hml hown hts hK (c_room l E A g M σ hv hw hp k w hk9 hw9) gL_room_X4_room rfl rfl rfl (by decide +kernel) rfl ⟨Nat.le_of_ble_eq_true rfl, Nat.le_of_ble_eq_true rfl⟩ hM0 (CW.x hw) rfl rfl hM hl.1 (Nat.le_of_ble_eq_true rfl) ⟨Nat.le_of_ble_eq_true rfl, Nat.le_of_ble_eq_true rfl⟩ rfl dL_room_5 ?_
  refine W.eq (g2 := F0 m 8 ls [.int (rmT σ k w), .int 0, .ref qo]) rfl ?_
  refine lv_i2l hx hb dL_room_8 rfl ?_
  refine o_last hx hb hK hO (Or.inr rfl) hS dL_room_9 (fun H locs f1 hO hf1 hz hk hS => ?_)
  have hM := hM.kept (fun t e ht => hk _ (fun h => hqo (h ▸ (hM.1 t e ht).2)))
  refine lv_goto (tgt := 17) hx hb dL_room_10 (by decide) ?_
  refine lv_iconst (v := 0) hx hb dL_room_17 (by decide) ?_
  exact w_i hx hb hr hlocks dL_room_18 hS (Nat.le_of_ble_eq_true rfl) (Nat.le_of_ble_eq_true rfl) rfl (⟨g, M, rfl, hM, ⟨hw, hp, hd⟩, f1, hO, fun _ => hf1.trans (rfl)⟩)
set_option maxHeartbeats 4000000 in
set_option maxRecDepth 100000 in
theorem w_guest1 (l : Launch) (hl9 : l.stackTraces = false) (E : gE) (A : Nat → Prop) (g : Nat → Nat) (M : gM) (σ : Sg) (hv : VS σ) (hw : CW E g M σ) (hp : PW E M σ) (hd : CD M σ) (x y : Int32) (hbad : ¬ (0 ≤ x ∧ x < nI (kU σ))) (qo : Nat) (hqo : ¬ A qo) (fo : Nat → Int64) : Met l yL_guest wsL_guest ({ frames := 30, cells := 4, slots := 60, locals := 1500 } : Room) (Pz E (fun q => A q ∨ q = qo) [.ref (g 0), .int x, .int y, .ref qo] (PO E A g M qo fo)) (QO E g qo A (1, 0, σ)) 4 60 (fun q => A q ∨ q = qo) := by
  refine e_entry (by decide) rfl (Nat.le_of_ble_eq_true rfl) ?_
  intro p e s m args below meth c hx hb hr hml hts hown hlocks hin hP hK hZ htab ls hl
  obtain ⟨hM, hA, hO⟩ := hP
  have hl : lv_has ls 5 [(0, .ref (g 0)), (1, .int x), (2, .int y), (3, .ref qo)] := hl
  have hown : s.vm.findClass RL = some m.cls := hown
  have hS : va_S (fun q => A q ∨ q = qo) s.heap s.heap [] := va_S.rf
  have hM0 := hM.up (B := fun q => A q ∨ q = qo) (fun _ h => Or.inl h)
  refine lv_aload_n hx hb dL_guest_0 rfl (lv_at hl 3 rfl) ?_
  refine lv_iconst (v := 0) hx hb dL_guest_1 (by decide) ?_
  refine lv_aload_n hx hb dL_guest_2 rfl (lv_at hl 0 rfl) ?_
  refine lv_iload_n hx hb dL_guest_3 rfl (lv_at hl 1 rfl) ?_
  refine lv_iload_n hx hb dL_guest_4 rfl (lv_at hl 2 rfl) ?_
  refine m_xV 2 [.int x, .int y] [.int 0, .ref qo] hx hb hml hown hts hK (x_guest1 l hl9 E A g M σ hv hw x y hbad) gL_guest_X4_guest rfl rfl rfl (by decide +kernel) rfl ⟨Nat.le_of_ble_eq_true rfl, Nat.le_of_ble_eq_true rfl⟩ hM (CW.x hw) rfl rfl (by exact hM) hl.1 (Nat.le_of_ble_eq_true rfl) ⟨Nat.le_of_ble_eq_true rfl, Nat.le_of_ble_eq_true rfl⟩ rfl dL_guest_5 hZ (fun _ h => Or.inl h) hS (fun ce q9 H locs hz9 hk9 hS hce hcv hcl => ?_)
  refine vx_catch (own := RL) (name := "java/lang/IndexOutOfBoundsException") hown [] ⟨0, 10, 13, 21⟩ [] (by rw [htab]; rfl) (fun z hz => nomatch hz) (by decide) (by decide) (hts (.classLink RL 21 "java/lang/IndexOutOfBoundsException") (by decide +kernel)) (va_Nw.use rfl (hZ.castE (by simp))) hce hcv hcl ?_
  refine W.eq (g2 := F0 m 13 ls [.ref q9]) rfl ?_
  refine lv_astore (lv' := [(4, .ref q9), (0, .ref (g 0)), (1, .int x), (2, .int y), (3, .ref qo)]) hx hb dL_guest_13 hl (by decide) rfl (fun ls hl => ?_)
  refine lv_iconst (v := 1) hx hb dL_guest_15 (by decide) ?_
  exact w_i hx hb hr hlocks dL_guest_16 hS (Nat.le_of_ble_eq_true rfl) (Nat.le_of_ble_eq_true rfl) rfl (⟨g, M, rfl, hM.kept (fun t e ht => hk9 _ (hM.lt ht)), ⟨hw, hp, hd⟩, fo, (hk9 _ hO.lt).trans hO, fun h => absurd (show (1 : Int32) = 0 from h) (by decide)⟩)
set_option maxHeartbeats 4000000 in
set_option maxRecDepth 100000 in
theorem w_guest2 (l : Launch) (hl9 : l.stackTraces = false) (E : gE) (A : Nat → Prop) (g : Nat → Nat) (M : gM) (σ : Sg) (hv : VS σ) (hw : CW E g M σ) (hp : PW E M σ) (hd : CD M σ) (k : Nat) (hk9 : k < kU σ) (y : Int32) (hbad : ¬ (0 ≤ y ∧ y ≤ 6)) (qo : Nat) (hqo : ¬ A qo) (fo : Nat → Int64) : Met l yL_guest wsL_guest ({ frames := 30, cells := 4, slots := 60, locals := 1500 } : Room) (Pz E (fun q => A q ∨ q = qo) [.ref (g 0), .int (nI k), .int y, .ref qo] (PO E A g M qo fo)) (QO E g qo A (1, 0, σ)) 4 60 (fun q => A q ∨ q = qo) := by
  refine e_entry (by decide) rfl (Nat.le_of_ble_eq_true rfl) ?_
  intro p e s m args below meth c hx hb hr hml hts hown hlocks hin hP hK hZ htab ls hl
  obtain ⟨hM, hA, hO⟩ := hP
  have hl : lv_has ls 5 [(0, .ref (g 0)), (1, .int (nI k)), (2, .int y), (3, .ref qo)] := hl
  have hown : s.vm.findClass RL = some m.cls := hown
  have hS : va_S (fun q => A q ∨ q = qo) s.heap s.heap [] := va_S.rf
  have hM0 := hM.up (B := fun q => A q ∨ q = qo) (fun _ h => Or.inl h)
  refine lv_aload_n hx hb dL_guest_0 rfl (lv_at hl 3 rfl) ?_
  refine lv_iconst (v := 0) hx hb dL_guest_1 (by decide) ?_
  refine lv_aload_n hx hb dL_guest_2 rfl (lv_at hl 0 rfl) ?_
  refine lv_iload_n hx hb dL_guest_3 rfl (lv_at hl 1 rfl) ?_
  refine lv_iload_n hx hb dL_guest_4 rfl (lv_at hl 2 rfl) ?_
  refine m_xV 2 [.int (nI k), .int y] [.int 0, .ref qo] hx hb hml hown hts hK (x_guest2 l hl9 E A g M σ hv hw k hk9 y hbad) gL_guest_X4_guest rfl rfl rfl (by decide +kernel) rfl ⟨Nat.le_of_ble_eq_true rfl, Nat.le_of_ble_eq_true rfl⟩ hM (CW.x hw) rfl rfl (by exact hM) hl.1 (Nat.le_of_ble_eq_true rfl) ⟨Nat.le_of_ble_eq_true rfl, Nat.le_of_ble_eq_true rfl⟩ rfl dL_guest_5 hZ (fun _ h => Or.inl h) hS (fun ce q9 H locs hz9 hk9 hS hce hcv hcl => ?_)
  refine vx_catch (own := RL) (name := "java/lang/IndexOutOfBoundsException") hown [] ⟨0, 10, 13, 21⟩ [] (by rw [htab]; rfl) (fun z hz => nomatch hz) (by decide) (by decide) (hts (.classLink RL 21 "java/lang/IndexOutOfBoundsException") (by decide +kernel)) (va_Nw.use rfl (hZ.castE (by simp))) hce hcv hcl ?_
  refine W.eq (g2 := F0 m 13 ls [.ref q9]) rfl ?_
  refine lv_astore (lv' := [(4, .ref q9), (0, .ref (g 0)), (1, .int (nI k)), (2, .int y), (3, .ref qo)]) hx hb dL_guest_13 hl (by decide) rfl (fun ls hl => ?_)
  refine lv_iconst (v := 1) hx hb dL_guest_15 (by decide) ?_
  exact w_i hx hb hr hlocks dL_guest_16 hS (Nat.le_of_ble_eq_true rfl) (Nat.le_of_ble_eq_true rfl) rfl (⟨g, M, rfl, hM.kept (fun t e ht => hk9 _ (hM.lt ht)), ⟨hw, hp, hd⟩, fo, (hk9 _ hO.lt).trans hO, fun h => absurd (show (1 : Int32) = 0 from h) (by decide)⟩)
set_option maxHeartbeats 4000000 in
set_option maxRecDepth 100000 in
theorem w_guest (l : Launch) (E : gE) (A : Nat → Prop) (g : Nat → Nat) (M : gM) (σ : Sg) (hv : VS σ) (hw : CW E g M σ) (hp : PW E M σ) (hd : CD M σ) (k w : Nat) (hk9 : k < kU σ) (hw9 : w < 7) (qo : Nat) (hqo : ¬ A qo) (fo : Nat → Int64) : Met l yL_guest wsL_guest ({ frames := 30, cells := 4, slots := 60, locals := 1500 } : Room) (Pz E (fun q => A q ∨ q = qo) [.ref (g 0), .int (nI k), .int (nI w), .ref qo] (PO E A g M qo fo)) (QO E g qo A (0, sGu σ k w, σ)) 4 60 (fun q => A q ∨ q = qo) := by
  refine e_entry (by decide) rfl (Nat.le_of_ble_eq_true rfl) ?_
  intro p e s m args below meth c hx hb hr hml hts hown hlocks hin hP hK hZ htab ls hl
  obtain ⟨hM, hA, hO⟩ := hP
  have hl : lv_has ls 5 [(0, .ref (g 0)), (1, .int (nI k)), (2, .int (nI w)), (3, .ref qo)] := hl
  have hown : s.vm.findClass RL = some m.cls := hown
  have hS : va_S (fun q => A q ∨ q = qo) s.heap s.heap [] := va_S.rf
  have hM0 := hM.up (B := fun q => A q ∨ q = qo) (fun _ h => Or.inl h)
  refine lv_aload_n hx hb dL_guest_0 rfl (lv_at hl 3 rfl) ?_
  refine lv_iconst (v := 0) hx hb dL_guest_1 (by decide) ?_
  refine lv_aload_n hx hb dL_guest_2 rfl (lv_at hl 0 rfl) ?_
  refine lv_iload_n hx hb dL_guest_3 rfl (lv_at hl 1 rfl) ?_
  refine lv_iload_n hx hb dL_guest_4 rfl (lv_at hl 2 rfl) ?_
  refine m_cV 2 [.int (nI k), .int (nI w)] [.int 0, .ref qo] hx hb hml hown hts hK (c_guest l E A g M σ hv hw hp k w hk9 hw9) gL_guest_X4_guest rfl rfl rfl (by decide +kernel) rfl ⟨Nat.le_of_ble_eq_true rfl, Nat.le_of_ble_eq_true rfl⟩ hM0 (CW.x hw) rfl rfl hM hl.1 (Nat.le_of_ble_eq_true rfl) ⟨Nat.le_of_ble_eq_true rfl, Nat.le_of_ble_eq_true rfl⟩ rfl dL_guest_5 ?_
  refine W.eq (g2 := F0 m 8 ls [.int (sGu σ k w), .int 0, .ref qo]) rfl ?_
  refine lv_i2l hx hb dL_guest_8 rfl ?_
  refine o_last hx hb hK hO (Or.inr rfl) hS dL_guest_9 (fun H locs f1 hO hf1 hz hk hS => ?_)
  have hM := hM.kept (fun t e ht => hk _ (fun h => hqo (h ▸ (hM.1 t e ht).2)))
  refine lv_goto (tgt := 17) hx hb dL_guest_10 (by decide) ?_
  refine lv_iconst (v := 0) hx hb dL_guest_17 (by decide) ?_
  exact w_i hx hb hr hlocks dL_guest_18 hS (Nat.le_of_ble_eq_true rfl) (Nat.le_of_ble_eq_true rfl) rfl (⟨g, M, rfl, hM, ⟨hw, hp, hd⟩, f1, hO, fun _ => hf1.trans (rfl)⟩)
set_option maxHeartbeats 4000000 in
set_option maxRecDepth 100000 in
theorem w_wins1 (l : Launch) (hl9 : l.stackTraces = false) (E : gE) (A : Nat → Prop) (g : Nat → Nat) (M : gM) (σ : Sg) (hv : VS σ) (hw : CW E g M σ) (hp : PW E M σ) (hd : CD M σ) (x y : Int32) (hbad : ¬ (0 ≤ x ∧ x < nI (kR σ))) (qo : Nat) (hqo : ¬ A qo) (fo : Nat → Int64) : Met l yL_wins wsL_wins ({ frames := 30, cells := 4, slots := 60, locals := 1500 } : Room) (Pz E (fun q => A q ∨ q = qo) [.ref (g 0), .int x, .int y, .ref qo] (PO E A g M qo fo)) (QO E g qo A (1, 0, σ)) 4 60 (fun q => A q ∨ q = qo) := by
  refine e_entry (by decide) rfl (Nat.le_of_ble_eq_true rfl) ?_
  intro p e s m args below meth c hx hb hr hml hts hown hlocks hin hP hK hZ htab ls hl
  obtain ⟨hM, hA, hO⟩ := hP
  have hl : lv_has ls 5 [(0, .ref (g 0)), (1, .int x), (2, .int y), (3, .ref qo)] := hl
  have hown : s.vm.findClass RL = some m.cls := hown
  have hS : va_S (fun q => A q ∨ q = qo) s.heap s.heap [] := va_S.rf
  have hM0 := hM.up (B := fun q => A q ∨ q = qo) (fun _ h => Or.inl h)
  refine lv_aload_n hx hb dL_wins_0 rfl (lv_at hl 3 rfl) ?_
  refine lv_iconst (v := 0) hx hb dL_wins_1 (by decide) ?_
  refine lv_aload_n hx hb dL_wins_2 rfl (lv_at hl 0 rfl) ?_
  refine lv_iload_n hx hb dL_wins_3 rfl (lv_at hl 1 rfl) ?_
  refine lv_iload_n hx hb dL_wins_4 rfl (lv_at hl 2 rfl) ?_
  refine m_xV 2 [.int x, .int y] [.int 0, .ref qo] hx hb hml hown hts hK (x_wins1 l hl9 E A g M σ hv hw x y hbad) gL_wins_X4_wins rfl rfl rfl (by decide +kernel) rfl ⟨Nat.le_of_ble_eq_true rfl, Nat.le_of_ble_eq_true rfl⟩ hM (CW.x hw) rfl rfl (by exact hM) hl.1 (Nat.le_of_ble_eq_true rfl) ⟨Nat.le_of_ble_eq_true rfl, Nat.le_of_ble_eq_true rfl⟩ rfl dL_wins_5 hZ (fun _ h => Or.inl h) hS (fun ce q9 H locs hz9 hk9 hS hce hcv hcl => ?_)
  refine vx_catch (own := RL) (name := "java/lang/IndexOutOfBoundsException") hown [] ⟨0, 10, 13, 21⟩ [] (by rw [htab]; rfl) (fun z hz => nomatch hz) (by decide) (by decide) (hts (.classLink RL 21 "java/lang/IndexOutOfBoundsException") (by decide +kernel)) (va_Nw.use rfl (hZ.castE (by simp))) hce hcv hcl ?_
  refine W.eq (g2 := F0 m 13 ls [.ref q9]) rfl ?_
  refine lv_astore (lv' := [(4, .ref q9), (0, .ref (g 0)), (1, .int x), (2, .int y), (3, .ref qo)]) hx hb dL_wins_13 hl (by decide) rfl (fun ls hl => ?_)
  refine lv_iconst (v := 1) hx hb dL_wins_15 (by decide) ?_
  exact w_i hx hb hr hlocks dL_wins_16 hS (Nat.le_of_ble_eq_true rfl) (Nat.le_of_ble_eq_true rfl) rfl (⟨g, M, rfl, hM.kept (fun t e ht => hk9 _ (hM.lt ht)), ⟨hw, hp, hd⟩, fo, (hk9 _ hO.lt).trans hO, fun h => absurd (show (1 : Int32) = 0 from h) (by decide)⟩)
set_option maxHeartbeats 4000000 in
set_option maxRecDepth 100000 in
theorem w_wins2 (l : Launch) (hl9 : l.stackTraces = false) (E : gE) (A : Nat → Prop) (g : Nat → Nat) (M : gM) (σ : Sg) (hv : VS σ) (hw : CW E g M σ) (hp : PW E M σ) (hd : CD M σ) (k : Nat) (hk9 : k < kR σ) (y : Int32) (hbad : ¬ (0 ≤ y ∧ y ≤ 2)) (qo : Nat) (hqo : ¬ A qo) (fo : Nat → Int64) : Met l yL_wins wsL_wins ({ frames := 30, cells := 4, slots := 60, locals := 1500 } : Room) (Pz E (fun q => A q ∨ q = qo) [.ref (g 0), .int (nI k), .int y, .ref qo] (PO E A g M qo fo)) (QO E g qo A (1, 0, σ)) 4 60 (fun q => A q ∨ q = qo) := by
  refine e_entry (by decide) rfl (Nat.le_of_ble_eq_true rfl) ?_
  intro p e s m args below meth c hx hb hr hml hts hown hlocks hin hP hK hZ htab ls hl
  obtain ⟨hM, hA, hO⟩ := hP
  have hl : lv_has ls 5 [(0, .ref (g 0)), (1, .int (nI k)), (2, .int y), (3, .ref qo)] := hl
  have hown : s.vm.findClass RL = some m.cls := hown
  have hS : va_S (fun q => A q ∨ q = qo) s.heap s.heap [] := va_S.rf
  have hM0 := hM.up (B := fun q => A q ∨ q = qo) (fun _ h => Or.inl h)
  refine lv_aload_n hx hb dL_wins_0 rfl (lv_at hl 3 rfl) ?_
  refine lv_iconst (v := 0) hx hb dL_wins_1 (by decide) ?_
  refine lv_aload_n hx hb dL_wins_2 rfl (lv_at hl 0 rfl) ?_
  refine lv_iload_n hx hb dL_wins_3 rfl (lv_at hl 1 rfl) ?_
  refine lv_iload_n hx hb dL_wins_4 rfl (lv_at hl 2 rfl) ?_
  refine m_xV 2 [.int (nI k), .int y] [.int 0, .ref qo] hx hb hml hown hts hK (x_wins2 l hl9 E A g M σ hv hw k hk9 y hbad) gL_wins_X4_wins rfl rfl rfl (by decide +kernel) rfl ⟨Nat.le_of_ble_eq_true rfl, Nat.le_of_ble_eq_true rfl⟩ hM (CW.x hw) rfl rfl (by exact hM) hl.1 (Nat.le_of_ble_eq_true rfl) ⟨Nat.le_of_ble_eq_true rfl, Nat.le_of_ble_eq_true rfl⟩ rfl dL_wins_5 hZ (fun _ h => Or.inl h) hS (fun ce q9 H locs hz9 hk9 hS hce hcv hcl => ?_)
  refine vx_catch (own := RL) (name := "java/lang/IndexOutOfBoundsException") hown [] ⟨0, 10, 13, 21⟩ [] (by rw [htab]; rfl) (fun z hz => nomatch hz) (by decide) (by decide) (hts (.classLink RL 21 "java/lang/IndexOutOfBoundsException") (by decide +kernel)) (va_Nw.use rfl (hZ.castE (by simp))) hce hcv hcl ?_
  refine W.eq (g2 := F0 m 13 ls [.ref q9]) rfl ?_
  refine lv_astore (lv' := [(4, .ref q9), (0, .ref (g 0)), (1, .int (nI k)), (2, .int y), (3, .ref qo)]) hx hb dL_wins_13 hl (by decide) rfl (fun ls hl => ?_)
  refine lv_iconst (v := 1) hx hb dL_wins_15 (by decide) ?_
  exact w_i hx hb hr hlocks dL_wins_16 hS (Nat.le_of_ble_eq_true rfl) (Nat.le_of_ble_eq_true rfl) rfl (⟨g, M, rfl, hM.kept (fun t e ht => hk9 _ (hM.lt ht)), ⟨hw, hp, hd⟩, fo, (hk9 _ hO.lt).trans hO, fun h => absurd (show (1 : Int32) = 0 from h) (by decide)⟩)
set_option maxHeartbeats 4000000 in
set_option maxRecDepth 100000 in
theorem w_wins (l : Launch) (E : gE) (A : Nat → Prop) (g : Nat → Nat) (M : gM) (σ : Sg) (hv : VS σ) (hw : CW E g M σ) (hp : PW E M σ) (hd : CD M σ) (k w : Nat) (hk9 : k < kR σ) (hw9 : w < 3) (qo : Nat) (hqo : ¬ A qo) (fo : Nat → Int64) : Met l yL_wins wsL_wins ({ frames := 30, cells := 4, slots := 60, locals := 1500 } : Room) (Pz E (fun q => A q ∨ q = qo) [.ref (g 0), .int (nI k), .int (nI w), .ref qo] (PO E A g M qo fo)) (QO E g qo A (0, wnT σ k w, σ)) 4 60 (fun q => A q ∨ q = qo) := by
  refine e_entry (by decide) rfl (Nat.le_of_ble_eq_true rfl) ?_
  intro p e s m args below meth c hx hb hr hml hts hown hlocks hin hP hK hZ htab ls hl
  obtain ⟨hM, hA, hO⟩ := hP
  have hl : lv_has ls 5 [(0, .ref (g 0)), (1, .int (nI k)), (2, .int (nI w)), (3, .ref qo)] := hl
  have hown : s.vm.findClass RL = some m.cls := hown
  have hS : va_S (fun q => A q ∨ q = qo) s.heap s.heap [] := va_S.rf
  have hM0 := hM.up (B := fun q => A q ∨ q = qo) (fun _ h => Or.inl h)
  refine lv_aload_n hx hb dL_wins_0 rfl (lv_at hl 3 rfl) ?_
  refine lv_iconst (v := 0) hx hb dL_wins_1 (by decide) ?_
  refine lv_aload_n hx hb dL_wins_2 rfl (lv_at hl 0 rfl) ?_
  refine lv_iload_n hx hb dL_wins_3 rfl (lv_at hl 1 rfl) ?_
  refine lv_iload_n hx hb dL_wins_4 rfl (lv_at hl 2 rfl) ?_
  refine m_cV 2 [.int (nI k), .int (nI w)] [.int 0, .ref qo] hx hb hml hown hts hK (c_wins l E A g M σ hv hw hp k w hk9 hw9) gL_wins_X4_wins rfl rfl rfl (by decide +kernel) rfl ⟨Nat.le_of_ble_eq_true rfl, Nat.le_of_ble_eq_true rfl⟩ hM0 (CW.x hw) rfl rfl hM hl.1 (Nat.le_of_ble_eq_true rfl) ⟨Nat.le_of_ble_eq_true rfl, Nat.le_of_ble_eq_true rfl⟩ rfl dL_wins_5 ?_
  refine W.eq (g2 := F0 m 8 ls [.int (wnT σ k w), .int 0, .ref qo]) rfl ?_
  refine lv_i2l hx hb dL_wins_8 rfl ?_
  refine o_last hx hb hK hO (Or.inr rfl) hS dL_wins_9 (fun H locs f1 hO hf1 hz hk hS => ?_)
  have hM := hM.kept (fun t e ht => hk _ (fun h => hqo (h ▸ (hM.1 t e ht).2)))
  refine lv_goto (tgt := 17) hx hb dL_wins_10 (by decide) ?_
  refine lv_iconst (v := 0) hx hb dL_wins_17 (by decide) ?_
  exact w_i hx hb hr hlocks dL_wins_18 hS (Nat.le_of_ble_eq_true rfl) (Nat.le_of_ble_eq_true rfl) rfl (⟨g, M, rfl, hM, ⟨hw, hp, hd⟩, f1, hO, fun _ => hf1.trans (rfl)⟩)
set_option maxHeartbeats 4000000 in
set_option maxRecDepth 100000 in
theorem w_count1 (l : Launch) (hl9 : l.stackTraces = false) (E : gE) (A : Nat → Prop) (g : Nat → Nat) (M : gM) (σ : Sg) (hv : VS σ) (hw : CW E g M σ) (hp : PW E M σ) (hd : CD M σ) (y : Int32) (hbad : ¬ (0 ≤ y ∧ y ≤ 8)) (qo : Nat) (hqo : ¬ A qo) (fo : Nat → Int64) : Met l yL_count wsL_count ({ frames := 30, cells := 4, slots := 60, locals := 1500 } : Room) (Pz E (fun q => A q ∨ q = qo) [.ref (g 0), .int y, .ref qo] (PO E A g M qo fo)) (QO E g qo A (1, 0, σ)) 4 60 (fun q => A q ∨ q = qo) := by
  refine e_entry (by decide) rfl (Nat.le_of_ble_eq_true rfl) ?_
  intro p e s m args below meth c hx hb hr hml hts hown hlocks hin hP hK hZ htab ls hl
  obtain ⟨hM, hA, hO⟩ := hP
  have hl : lv_has ls 4 [(0, .ref (g 0)), (1, .int y), (2, .ref qo)] := hl
  have hown : s.vm.findClass RL = some m.cls := hown
  have hS : va_S (fun q => A q ∨ q = qo) s.heap s.heap [] := va_S.rf
  have hM0 := hM.up (B := fun q => A q ∨ q = qo) (fun _ h => Or.inl h)
  refine lv_aload_n hx hb dL_count_0 rfl (lv_at hl 2 rfl) ?_
  refine lv_iconst (v := 0) hx hb dL_count_1 (by decide) ?_
  refine lv_aload_n hx hb dL_count_2 rfl (lv_at hl 0 rfl) ?_
  refine lv_iload_n hx hb dL_count_3 rfl (lv_at hl 1 rfl) ?_
  refine m_xV 1 [.int y] [.int 0, .ref qo] hx hb hml hown hts hK (x_count1 l hl9 E A g M σ hv hw y hbad) gL_count_X4_count rfl rfl rfl (by decide +kernel) rfl ⟨Nat.le_of_ble_eq_true rfl, Nat.le_of_ble_eq_true rfl⟩ hM (CW.x hw) rfl rfl (by exact hM) hl.1 (Nat.le_of_ble_eq_true rfl) ⟨Nat.le_of_ble_eq_true rfl, Nat.le_of_ble_eq_true rfl⟩ rfl dL_count_4 hZ (fun _ h => Or.inl h) hS (fun ce q9 H locs hz9 hk9 hS hce hcv hcl => ?_)
  refine vx_catch (own := RL) (name := "java/lang/IndexOutOfBoundsException") hown [] ⟨0, 9, 12, 21⟩ [] (by rw [htab]; rfl) (fun z hz => nomatch hz) (by decide) (by decide) (hts (.classLink RL 21 "java/lang/IndexOutOfBoundsException") (by decide +kernel)) (va_Nw.use rfl (hZ.castE (by simp))) hce hcv hcl ?_
  refine W.eq (g2 := F0 m 12 ls [.ref q9]) rfl ?_
  refine lv_astore_n (lv' := [(3, .ref q9), (0, .ref (g 0)), (1, .int y), (2, .ref qo)]) hx hb dL_count_12 rfl hl (by decide) rfl (fun ls hl => ?_)
  refine lv_iconst (v := 1) hx hb dL_count_13 (by decide) ?_
  exact w_i hx hb hr hlocks dL_count_14 hS (Nat.le_of_ble_eq_true rfl) (Nat.le_of_ble_eq_true rfl) rfl (⟨g, M, rfl, hM.kept (fun t e ht => hk9 _ (hM.lt ht)), ⟨hw, hp, hd⟩, fo, (hk9 _ hO.lt).trans hO, fun h => absurd (show (1 : Int32) = 0 from h) (by decide)⟩)
set_option maxHeartbeats 4000000 in
set_option maxRecDepth 100000 in
theorem w_count (l : Launch) (E : gE) (A : Nat → Prop) (g : Nat → Nat) (M : gM) (σ : Sg) (hv : VS σ) (hw : CW E g M σ) (hp : PW E M σ) (hd : CD M σ) (w : Nat) (hw9 : w < 9) (qo : Nat) (hqo : ¬ A qo) (fo : Nat → Int64) : Met l yL_count wsL_count ({ frames := 30, cells := 4, slots := 60, locals := 1500 } : Room) (Pz E (fun q => A q ∨ q = qo) [.ref (g 0), .int (nI w), .ref qo] (PO E A g M qo fo)) (QO E g qo A (0, ctT σ w, σ)) 4 60 (fun q => A q ∨ q = qo) := by
  refine e_entry (by decide) rfl (Nat.le_of_ble_eq_true rfl) ?_
  intro p e s m args below meth c hx hb hr hml hts hown hlocks hin hP hK hZ htab ls hl
  obtain ⟨hM, hA, hO⟩ := hP
  have hl : lv_has ls 4 [(0, .ref (g 0)), (1, .int (nI w)), (2, .ref qo)] := hl
  have hown : s.vm.findClass RL = some m.cls := hown
  have hS : va_S (fun q => A q ∨ q = qo) s.heap s.heap [] := va_S.rf
  have hM0 := hM.up (B := fun q => A q ∨ q = qo) (fun _ h => Or.inl h)
  refine lv_aload_n hx hb dL_count_0 rfl (lv_at hl 2 rfl) ?_
  refine lv_iconst (v := 0) hx hb dL_count_1 (by decide) ?_
  refine lv_aload_n hx hb dL_count_2 rfl (lv_at hl 0 rfl) ?_
  refine lv_iload_n hx hb dL_count_3 rfl (lv_at hl 1 rfl) ?_
  refine m_cV 1 [.int (nI w)] [.int 0, .ref qo] hx hb hml hown hts hK (c_count l E A g M σ hv hw hp w hw9) gL_count_X4_count rfl rfl rfl (by decide +kernel) rfl ⟨Nat.le_of_ble_eq_true rfl, Nat.le_of_ble_eq_true rfl⟩ hM0 (CW.x hw) rfl rfl hM hl.1 (Nat.le_of_ble_eq_true rfl) ⟨Nat.le_of_ble_eq_true rfl, Nat.le_of_ble_eq_true rfl⟩ rfl dL_count_4 ?_
  refine W.eq (g2 := F0 m 7 ls [.int (ctT σ w), .int 0, .ref qo]) rfl ?_
  refine lv_i2l hx hb dL_count_7 rfl ?_
  refine o_last hx hb hK hO (Or.inr rfl) hS dL_count_8 (fun H locs f1 hO hf1 hz hk hS => ?_)
  have hM := hM.kept (fun t e ht => hk _ (fun h => hqo (h ▸ (hM.1 t e ht).2)))
  refine lv_goto (tgt := 15) hx hb dL_count_9 (by decide) ?_
  refine lv_iconst (v := 0) hx hb dL_count_15 (by decide) ?_
  exact w_i hx hb hr hlocks dL_count_16 hS (Nat.le_of_ble_eq_true rfl) (Nat.le_of_ble_eq_true rfl) rfl (⟨g, M, rfl, hM, ⟨hw, hp, hd⟩, f1, hO, fun _ => hf1.trans (rfl)⟩)
set_option maxHeartbeats 4000000 in
set_option maxRecDepth 100000 in
theorem w_bid1 (l : Launch) (hl9 : l.stackTraces = false) (E : gE) (A : Nat → Prop) (g : Nat → Nat) (M : gM) (σ : Sg) (hv : VS σ) (hw : CW E g M σ) (hp : PW E M σ) (hd : CD M σ) (x y z : Int32) (hbad : ¬ (0 ≤ x ∧ x < nI (kU σ))) (qo : Nat) (hqo : ¬ A qo) (fo : Nat → Int64) : Met l yL_bid wsL_bid ({ frames := 30, cells := 4, slots := 60, locals := 1500 } : Room) (Pz E (fun q => A q ∨ q = qo) [.ref (g 0), .int x, .int y, .int z, .ref qo] (PO E A g M qo fo)) (QO E g qo A (1, 0, σ)) 4 60 (fun q => A q ∨ q = qo) := by
  refine e_entry (by decide) rfl (Nat.le_of_ble_eq_true rfl) ?_
  intro p e s m args below meth c hx hb hr hml hts hown hlocks hin hP hK hZ htab ls hl
  obtain ⟨hM, hA, hO⟩ := hP
  have hl : lv_has ls 6 [(0, .ref (g 0)), (1, .int x), (2, .int y), (3, .int z), (4, .ref qo)] := hl
  have hown : s.vm.findClass RL = some m.cls := hown
  have hS : va_S (fun q => A q ∨ q = qo) s.heap s.heap [] := va_S.rf
  have hM0 := hM.up (B := fun q => A q ∨ q = qo) (fun _ h => Or.inl h)
  refine lv_aload hx hb dL_bid_0 (lv_at hl 4 rfl) ?_
  refine lv_iconst (v := 0) hx hb dL_bid_2 (by decide) ?_
  refine lv_aload_n hx hb dL_bid_3 rfl (lv_at hl 0 rfl) ?_
  refine lv_iload_n hx hb dL_bid_4 rfl (lv_at hl 1 rfl) ?_
  refine lv_iload_n hx hb dL_bid_5 rfl (lv_at hl 2 rfl) ?_
  refine lv_iload_n hx hb dL_bid_6 rfl (lv_at hl 3 rfl) ?_
  refine m_xV 3 [.int x, .int y, .int z] [.int 0, .ref qo] hx hb hml hown hts hK (x_bid1 l hl9 E A g M σ hv hw x y z hbad) gL_bid_X4_bid rfl rfl rfl (by decide +kernel) rfl ⟨Nat.le_of_ble_eq_true rfl, Nat.le_of_ble_eq_true rfl⟩ hM (CW.x hw) rfl rfl (by exact hM) hl.1 (Nat.le_of_ble_eq_true rfl) ⟨Nat.le_of_ble_eq_true rfl, Nat.le_of_ble_eq_true rfl⟩ rfl dL_bid_7 hZ (fun _ h => Or.inl h) hS (fun ce q9 H locs hz9 hk9 hS hce hcv hcl => ?_)
  refine vx_catch (own := RL) (name := "java/lang/IndexOutOfBoundsException") hown [] ⟨0, 19, 22, 21⟩ [⟨0, 19, 26, 13⟩] (by rw [htab]; rfl) (fun z hz => nomatch hz) (by decide) (by decide) (hts (.classLink RL 21 "java/lang/IndexOutOfBoundsException") (by decide +kernel)) (va_Nw.use rfl (hZ.castE (by simp))) hce hcv hcl ?_
  refine W.eq (g2 := F0 m 22 ls [.ref q9]) rfl ?_
  refine lv_astore (lv' := [(5, .ref q9), (0, .ref (g 0)), (1, .int x), (2, .int y), (3, .int z), (4, .ref qo)]) hx hb dL_bid_22 hl (by decide) rfl (fun ls hl => ?_)
  refine lv_iconst (v := 1) hx hb dL_bid_24 (by decide) ?_
  exact w_i hx hb hr hlocks dL_bid_25 hS (Nat.le_of_ble_eq_true rfl) (Nat.le_of_ble_eq_true rfl) rfl (⟨g, M, rfl, hM.kept (fun t e ht => hk9 _ (hM.lt ht)), ⟨hw, hp, hd⟩, fo, (hk9 _ hO.lt).trans hO, fun h => absurd (show (1 : Int32) = 0 from h) (by decide)⟩)
set_option maxHeartbeats 4000000 in
set_option maxRecDepth 100000 in
theorem w_bid2 (l : Launch) (hl9 : l.stackTraces = false) (E : gE) (A : Nat → Prop) (g : Nat → Nat) (M : gM) (σ : Sg) (hv : VS σ) (hw : CW E g M σ) (hp : PW E M σ) (hd : CD M σ) (u : Nat) (hu : u < kU σ) (y z : Int32) (hbad : ¬ (0 ≤ y ∧ y < nI (kR σ))) (qo : Nat) (hqo : ¬ A qo) (fo : Nat → Int64) : Met l yL_bid wsL_bid ({ frames := 30, cells := 4, slots := 60, locals := 1500 } : Room) (Pz E (fun q => A q ∨ q = qo) [.ref (g 0), .int (nI u), .int y, .int z, .ref qo] (PO E A g M qo fo)) (QO E g qo A (1, 0, σ)) 4 60 (fun q => A q ∨ q = qo) := by
  refine e_entry (by decide) rfl (Nat.le_of_ble_eq_true rfl) ?_
  intro p e s m args below meth c hx hb hr hml hts hown hlocks hin hP hK hZ htab ls hl
  obtain ⟨hM, hA, hO⟩ := hP
  have hl : lv_has ls 6 [(0, .ref (g 0)), (1, .int (nI u)), (2, .int y), (3, .int z), (4, .ref qo)] := hl
  have hown : s.vm.findClass RL = some m.cls := hown
  have hS : va_S (fun q => A q ∨ q = qo) s.heap s.heap [] := va_S.rf
  have hM0 := hM.up (B := fun q => A q ∨ q = qo) (fun _ h => Or.inl h)
  refine lv_aload hx hb dL_bid_0 (lv_at hl 4 rfl) ?_
  refine lv_iconst (v := 0) hx hb dL_bid_2 (by decide) ?_
  refine lv_aload_n hx hb dL_bid_3 rfl (lv_at hl 0 rfl) ?_
  refine lv_iload_n hx hb dL_bid_4 rfl (lv_at hl 1 rfl) ?_
  refine lv_iload_n hx hb dL_bid_5 rfl (lv_at hl 2 rfl) ?_
  refine lv_iload_n hx hb dL_bid_6 rfl (lv_at hl 3 rfl) ?_
  refine m_xV 3 [.int (nI u), .int y, .int z] [.int 0, .ref qo] hx hb hml hown hts hK (x_bid2 l hl9 E A g M σ hv hw u hu y z hbad) gL_bid_X4_bid rfl rfl rfl (by decide +kernel) rfl ⟨Nat.le_of_ble_eq_true rfl, Nat.le_of_ble_eq_true rfl⟩ hM (CW.x hw) rfl rfl (by exact hM) hl.1 (Nat.le_of_ble_eq_true rfl) ⟨Nat.le_of_ble_eq_true rfl, Nat.le_of_ble_eq_true rfl⟩ rfl dL_bid_7 hZ (fun _ h => Or.inl h) hS (fun ce q9 H locs hz9 hk9 hS hce hcv hcl => ?_)
  refine vx_catch (own := RL) (name := "java/lang/IndexOutOfBoundsException") hown [] ⟨0, 19, 22, 21⟩ [⟨0, 19, 26, 13⟩] (by rw [htab]; rfl) (fun z hz => nomatch hz) (by decide) (by decide) (hts (.classLink RL 21 "java/lang/IndexOutOfBoundsException") (by decide +kernel)) (va_Nw.use rfl (hZ.castE (by simp))) hce hcv hcl ?_
  refine W.eq (g2 := F0 m 22 ls [.ref q9]) rfl ?_
  refine lv_astore (lv' := [(5, .ref q9), (0, .ref (g 0)), (1, .int (nI u)), (2, .int y), (3, .int z), (4, .ref qo)]) hx hb dL_bid_22 hl (by decide) rfl (fun ls hl => ?_)
  refine lv_iconst (v := 1) hx hb dL_bid_24 (by decide) ?_
  exact w_i hx hb hr hlocks dL_bid_25 hS (Nat.le_of_ble_eq_true rfl) (Nat.le_of_ble_eq_true rfl) rfl (⟨g, M, rfl, hM.kept (fun t e ht => hk9 _ (hM.lt ht)), ⟨hw, hp, hd⟩, fo, (hk9 _ hO.lt).trans hO, fun h => absurd (show (1 : Int32) = 0 from h) (by decide)⟩)
set_option maxHeartbeats 4000000 in
set_option maxRecDepth 100000 in
theorem w_bid3 (l : Launch) (hl9 : l.stackTraces = false) (E : gE) (A : Nat → Prop) (g : Nat → Nat) (M : gM) (σ : Sg) (hv : VS σ) (hw : CW E g M σ) (hp : PW E M σ) (hd : CD M σ) (u k : Nat) (hu : u < kU σ) (hk9 : k < kR σ) (z : Int32) (hbad : ¬ (1 ≤ z ∧ z ≤ 200)) (qo : Nat) (hqo : ¬ A qo) (fo : Nat → Int64) : Met l yL_bid wsL_bid ({ frames := 30, cells := 4, slots := 60, locals := 1500 } : Room) (Pz E (fun q => A q ∨ q = qo) [.ref (g 0), .int (nI u), .int (nI k), .int z, .ref qo] (PO E A g M qo fo)) (QO E g qo A (2, 0, σ)) 4 60 (fun q => A q ∨ q = qo) := by
  refine e_entry (by decide) rfl (Nat.le_of_ble_eq_true rfl) ?_
  intro p e s m args below meth c hx hb hr hml hts hown hlocks hin hP hK hZ htab ls hl
  obtain ⟨hM, hA, hO⟩ := hP
  have hl : lv_has ls 6 [(0, .ref (g 0)), (1, .int (nI u)), (2, .int (nI k)), (3, .int z), (4, .ref qo)] := hl
  have hown : s.vm.findClass RL = some m.cls := hown
  have hS : va_S (fun q => A q ∨ q = qo) s.heap s.heap [] := va_S.rf
  have hM0 := hM.up (B := fun q => A q ∨ q = qo) (fun _ h => Or.inl h)
  refine lv_aload hx hb dL_bid_0 (lv_at hl 4 rfl) ?_
  refine lv_iconst (v := 0) hx hb dL_bid_2 (by decide) ?_
  refine lv_aload_n hx hb dL_bid_3 rfl (lv_at hl 0 rfl) ?_
  refine lv_iload_n hx hb dL_bid_4 rfl (lv_at hl 1 rfl) ?_
  refine lv_iload_n hx hb dL_bid_5 rfl (lv_at hl 2 rfl) ?_
  refine lv_iload_n hx hb dL_bid_6 rfl (lv_at hl 3 rfl) ?_
  refine m_xV 3 [.int (nI u), .int (nI k), .int z] [.int 0, .ref qo] hx hb hml hown hts hK (x_bid3 l hl9 E A g M σ hv hw u k hu hk9 z hbad) gL_bid_X4_bid rfl rfl rfl (by decide +kernel) rfl ⟨Nat.le_of_ble_eq_true rfl, Nat.le_of_ble_eq_true rfl⟩ hM (CW.x hw) rfl rfl (by exact hM) hl.1 (Nat.le_of_ble_eq_true rfl) ⟨Nat.le_of_ble_eq_true rfl, Nat.le_of_ble_eq_true rfl⟩ rfl dL_bid_7 hZ (fun _ h => Or.inl h) hS (fun ce q9 H locs hz9 hk9 hS hce hcv hcl => ?_)
  refine vx_catch (own := RL) (name := "java/lang/IllegalArgumentException") hown [⟨0, 19, 22, 21⟩] ⟨0, 19, 26, 13⟩ [] (by rw [htab]; rfl) (fun z hz => by simp only [List.mem_cons, List.not_mem_nil, or_false] at hz; rcases hz with rfl <;> first | exact Or.inr ⟨by decide, _, hts (.classLink RL 21 "java/lang/IndexOutOfBoundsException") (by decide +kernel), hZ.1.2.2.2.2.2.1.2.1⟩) (by decide) (by decide) (hts (.classLink RL 13 "java/lang/IllegalArgumentException") (by decide +kernel)) (va_Nw.use rfl (hZ.castE (by simp))) hce hcv hcl ?_
  refine W.eq (g2 := F0 m 26 ls [.ref q9]) rfl ?_
  refine lv_astore (lv' := [(5, .ref q9), (0, .ref (g 0)), (1, .int (nI u)), (2, .int (nI k)), (3, .int z), (4, .ref qo)]) hx hb dL_bid_26 hl (by decide) rfl (fun ls hl => ?_)
  refine lv_iconst (v := 2) hx hb dL_bid_28 (by decide) ?_
  exact w_i hx hb hr hlocks dL_bid_29 hS (Nat.le_of_ble_eq_true rfl) (Nat.le_of_ble_eq_true rfl) rfl (⟨g, M, rfl, hM.kept (fun t e ht => hk9 _ (hM.lt ht)), ⟨hw, hp, hd⟩, fo, (hk9 _ hO.lt).trans hO, fun h => absurd (show (2 : Int32) = 0 from h) (by decide)⟩)
set_option maxHeartbeats 4000000 in
set_option maxRecDepth 100000 in
theorem w_bidOk (l : Launch) (E : gE) (A : Nat → Prop) (g : Nat → Nat) (M : gM) (σ : Sg) (hv : VS σ) (hw : CW E g M σ) (hp : PW E M σ) (hd : CD M σ) (u k : Nat) (hu : u < kU σ) (hk9 : k < kR σ) (z : Int32) (hz9 : 1 ≤ z ∧ z ≤ 200) (hv2 : VS (biS σ u k z)) (qo : Nat) (hqo : ¬ A qo) (fo : Nat → Int64) : Met l yL_bid wsL_bid ({ frames := 30, cells := 4, slots := 60, locals := 1500 } : Room) (Pz E (fun q => A q ∨ q = qo) [.ref (g 0), .int (nI u), .int (nI k), .int z, .ref qo] (PO E A g M qo fo)) (QO E g qo A (0, bI (sui (biS σ u k z) u k), biS σ u k z)) 4 60 (fun q => A q ∨ q = qo) := by
  refine e_entry (by decide) rfl (Nat.le_of_ble_eq_true rfl) ?_
  intro p e s m args below meth c hx hb hr hml hts hown hlocks hin hP hK hZ htab ls hl
  obtain ⟨hM, hA, hO⟩ := hP
  have hl : lv_has ls 6 [(0, .ref (g 0)), (1, .int (nI u)), (2, .int (nI k)), (3, .int z), (4, .ref qo)] := hl
  have hown : s.vm.findClass RL = some m.cls := hown
  have hS : va_S (fun q => A q ∨ q = qo) s.heap s.heap [] := va_S.rf
  have hM0 := hM.up (B := fun q => A q ∨ q = qo) (fun _ h => Or.inl h)
  refine lv_aload hx hb dL_bid_0 (lv_at hl 4 rfl) ?_
  refine lv_iconst (v := 0) hx hb dL_bid_2 (by decide) ?_
  refine lv_aload_n hx hb dL_bid_3 rfl (lv_at hl 0 rfl) ?_
  refine lv_iload_n hx hb dL_bid_4 rfl (lv_at hl 1 rfl) ?_
  refine lv_iload_n hx hb dL_bid_5 rfl (lv_at hl 2 rfl) ?_
  refine lv_iload_n hx hb dL_bid_6 rfl (lv_at hl 3 rfl) ?_
  refine m_wV 3 [.int (nI u), .int (nI k), .int z] [.int 0, .ref qo] hx hb hml hown hts hK (c_bidOk l E A g M σ hv hw hp hd u k hu hk9 z hz9 hv2) gL_bid_X4_bid rfl rfl rfl (by decide +kernel) rfl ⟨Nat.le_of_ble_eq_true rfl, Nat.le_of_ble_eq_true rfl⟩ hM0 (CW.x hw) rfl rfl hM hl.1 (Nat.le_of_ble_eq_true rfl) ⟨Nat.le_of_ble_eq_true rfl, Nat.le_of_ble_eq_true rfl⟩ rfl dL_bid_7 hS (fun _ _ h => Or.inl h) (fun _ h => Or.inl h) (fun H locs hQ hz hk hS => ?_)
  obtain ⟨M, hM, hX⟩ := hQ
  have hO := (hk _ hO.lt hqo).trans hO
  refine W.eq (g2 := F0 m 10 ls [.int (bI (sui (biS σ u k z) u k)), .int 0, .ref qo]) rfl ?_
  refine lv_if_eq (tgt := 17) hx hb dL_bid_10 (by decide) (fun c1 => ?_) (fun c1 => ?_)
  · have c1 := bI_f c1
    refine lv_lconst (v := 0) hx hb dL_bid_17 (by decide) ?_
    refine o_last hx hb hK hO (Or.inr rfl) hS dL_bid_18 (fun H locs f1 hO hf1 hz hk hS => ?_)
    have hM := hM.kept (fun t e ht => hk _ (fun h => hqo (h ▸ (hM.1 t e ht).2)))
    refine lv_goto (tgt := 30) hx hb dL_bid_19 (by decide) ?_
    refine lv_iconst (v := 0) hx hb dL_bid_30 (by decide) ?_
    exact w_i hx hb hr hlocks dL_bid_31 hS (Nat.le_of_ble_eq_true rfl) (Nat.le_of_ble_eq_true rfl) rfl (⟨g, M, rfl, hM, hX, f1, hO, fun _ => hf1.trans (by rw [c1]; rfl)⟩)
  · have c1 := bI_t c1
    refine lv_lconst (v := 1) hx hb dL_bid_13 (by decide) ?_
    refine lv_goto (tgt := 18) hx hb dL_bid_14 (by decide) ?_
    refine o_last hx hb hK hO (Or.inr rfl) hS dL_bid_18 (fun H locs f1 hO hf1 hz hk hS => ?_)
    have hM := hM.kept (fun t e ht => hk _ (fun h => hqo (h ▸ (hM.1 t e ht).2)))
    refine lv_goto (tgt := 30) hx hb dL_bid_19 (by decide) ?_
    refine lv_iconst (v := 0) hx hb dL_bid_30 (by decide) ?_
    exact w_i hx hb hr hlocks dL_bid_31 hS (Nat.le_of_ble_eq_true rfl) (Nat.le_of_ble_eq_true rfl) rfl (⟨g, M, rfl, hM, hX, f1, hO, fun _ => hf1.trans (by rw [c1]; rfl)⟩)
set_option maxHeartbeats 4000000 in
set_option maxRecDepth 100000 in
theorem w_leave1 (l : Launch) (hl9 : l.stackTraces = false) (E : gE) (A : Nat → Prop) (g : Nat → Nat) (M : gM) (σ : Sg) (hv : VS σ) (hw : CW E g M σ) (hp : PW E M σ) (hd : CD M σ) (x : Int32) (hbad : ¬ (0 ≤ x ∧ x < nI (kU σ))) (qo : Nat) (hqo : ¬ A qo) (fo : Nat → Int64) : Met l yL_leave wsL_leave ({ frames := 30, cells := 4, slots := 60, locals := 1500 } : Room) (Pz E (fun q => A q ∨ q = qo) [.ref (g 0), .int x, .ref qo] (PO E A g M qo fo)) (QO E g qo A (1, 0, σ)) 4 60 (fun q => A q ∨ q = qo) := by
  refine e_entry (by decide) rfl (Nat.le_of_ble_eq_true rfl) ?_
  intro p e s m args below meth c hx hb hr hml hts hown hlocks hin hP hK hZ htab ls hl
  obtain ⟨hM, hA, hO⟩ := hP
  have hl : lv_has ls 4 [(0, .ref (g 0)), (1, .int x), (2, .ref qo)] := hl
  have hown : s.vm.findClass RL = some m.cls := hown
  have hS : va_S (fun q => A q ∨ q = qo) s.heap s.heap [] := va_S.rf
  have hM0 := hM.up (B := fun q => A q ∨ q = qo) (fun _ h => Or.inl h)
  refine lv_aload_n hx hb dL_leave_0 rfl (lv_at hl 2 rfl) ?_
  refine lv_iconst (v := 0) hx hb dL_leave_1 (by decide) ?_
  refine lv_aload_n hx hb dL_leave_2 rfl (lv_at hl 0 rfl) ?_
  refine lv_iload_n hx hb dL_leave_3 rfl (lv_at hl 1 rfl) ?_
  refine m_xV 1 [.int x] [.int 0, .ref qo] hx hb hml hown hts hK (x_leave1 l hl9 E A g M σ hv hw x hbad) gL_leave_X4_leave rfl rfl rfl (by decide +kernel) rfl ⟨Nat.le_of_ble_eq_true rfl, Nat.le_of_ble_eq_true rfl⟩ hM (CW.x hw) rfl rfl (by exact hM) hl.1 (Nat.le_of_ble_eq_true rfl) ⟨Nat.le_of_ble_eq_true rfl, Nat.le_of_ble_eq_true rfl⟩ rfl dL_leave_4 hZ (fun _ h => Or.inl h) hS (fun ce q9 H locs hz9 hk9 hS hce hcv hcl => ?_)
  refine vx_catch (own := RL) (name := "java/lang/IndexOutOfBoundsException") hown [] ⟨0, 9, 12, 21⟩ [] (by rw [htab]; rfl) (fun z hz => nomatch hz) (by decide) (by decide) (hts (.classLink RL 21 "java/lang/IndexOutOfBoundsException") (by decide +kernel)) (va_Nw.use rfl (hZ.castE (by simp))) hce hcv hcl ?_
  refine W.eq (g2 := F0 m 12 ls [.ref q9]) rfl ?_
  refine lv_astore_n (lv' := [(3, .ref q9), (0, .ref (g 0)), (1, .int x), (2, .ref qo)]) hx hb dL_leave_12 rfl hl (by decide) rfl (fun ls hl => ?_)
  refine lv_iconst (v := 1) hx hb dL_leave_13 (by decide) ?_
  exact w_i hx hb hr hlocks dL_leave_14 hS (Nat.le_of_ble_eq_true rfl) (Nat.le_of_ble_eq_true rfl) rfl (⟨g, M, rfl, hM.kept (fun t e ht => hk9 _ (hM.lt ht)), ⟨hw, hp, hd⟩, fo, (hk9 _ hO.lt).trans hO, fun h => absurd (show (1 : Int32) = 0 from h) (by decide)⟩)
set_option maxHeartbeats 4000000 in
set_option maxRecDepth 100000 in
theorem w_leaveOk (l : Launch) (E : gE) (A : Nat → Prop) (g : Nat → Nat) (M : gM) (σ : Sg) (hv : VS σ) (hw : CW E g M σ) (hp : PW E M σ) (hd : CD M σ) (u : Nat) (hu : u < kU σ) (qo : Nat) (hqo : ¬ A qo) (fo : Nat → Int64) : Met l yL_leave wsL_leave ({ frames := 30, cells := 4, slots := 60, locals := 1500 } : Room) (Pz E (fun q => A q ∨ q = qo) [.ref (g 0), .int (nI u), .ref qo] (PO E A g M qo fo)) (QO E g qo A (0, sGu σ u 3, uU (uU σ u 3 (-1)) u 4 0)) 4 60 (fun q => A q ∨ q = qo) := by
  refine e_entry (by decide) rfl (Nat.le_of_ble_eq_true rfl) ?_
  intro p e s m args below meth c hx hb hr hml hts hown hlocks hin hP hK hZ htab ls hl
  obtain ⟨hM, hA, hO⟩ := hP
  have hl : lv_has ls 4 [(0, .ref (g 0)), (1, .int (nI u)), (2, .ref qo)] := hl
  have hown : s.vm.findClass RL = some m.cls := hown
  have hS : va_S (fun q => A q ∨ q = qo) s.heap s.heap [] := va_S.rf
  have hM0 := hM.up (B := fun q => A q ∨ q = qo) (fun _ h => Or.inl h)
  refine lv_aload_n hx hb dL_leave_0 rfl (lv_at hl 2 rfl) ?_
  refine lv_iconst (v := 0) hx hb dL_leave_1 (by decide) ?_
  refine lv_aload_n hx hb dL_leave_2 rfl (lv_at hl 0 rfl) ?_
  refine lv_iload_n hx hb dL_leave_3 rfl (lv_at hl 1 rfl) ?_
  refine m_wV 1 [.int (nI u)] [.int 0, .ref qo] hx hb hml hown hts hK (c_leaveOk l E A g M σ hv hw hp hd u hu) gL_leave_X4_leave rfl rfl rfl (by decide +kernel) rfl ⟨Nat.le_of_ble_eq_true rfl, Nat.le_of_ble_eq_true rfl⟩ hM0 (CW.x hw) rfl rfl hM hl.1 (Nat.le_of_ble_eq_true rfl) ⟨Nat.le_of_ble_eq_true rfl, Nat.le_of_ble_eq_true rfl⟩ rfl dL_leave_4 hS (fun _ _ h => Or.inl h) (fun _ h => Or.inl h) (fun H locs hQ hz hk hS => ?_)
  obtain ⟨M, hM, hX⟩ := hQ
  have hO := (hk _ hO.lt hqo).trans hO
  refine W.eq (g2 := F0 m 7 ls [.int (sGu σ u 3), .int 0, .ref qo]) rfl ?_
  refine lv_i2l hx hb dL_leave_7 rfl ?_
  refine o_last hx hb hK hO (Or.inr rfl) hS dL_leave_8 (fun H locs f1 hO hf1 hz hk hS => ?_)
  have hM := hM.kept (fun t e ht => hk _ (fun h => hqo (h ▸ (hM.1 t e ht).2)))
  refine lv_goto (tgt := 15) hx hb dL_leave_9 (by decide) ?_
  refine lv_iconst (v := 0) hx hb dL_leave_15 (by decide) ?_
  exact w_i hx hb hr hlocks dL_leave_16 hS (Nat.le_of_ble_eq_true rfl) (Nat.le_of_ble_eq_true rfl) rfl (⟨g, M, rfl, hM, hX, f1, hO, fun _ => hf1.trans (rfl)⟩)
set_option maxHeartbeats 4000000 in
set_option maxRecDepth 100000 in
theorem w_best1 (l : Launch) (hl9 : l.stackTraces = false) (E : gE) (A : Nat → Prop) (g : Nat → Nat) (M : gM) (σ : Sg) (hv : VS σ) (hw : CW E g M σ) (hp : PW E M σ) (hd : CD M σ) (x : Int32) (hbad : ¬ (0 ≤ x ∧ x < nI (kU σ))) (qo : Nat) (hqo : ¬ A qo) (fo : Nat → Int64) : Met l yL_best wsL_best ({ frames := 30, cells := 4, slots := 60, locals := 1500 } : Room) (Pz E (fun q => A q ∨ q = qo) [.ref (g 0), .int x, .ref qo] (PO E A g M qo fo)) (QO E g qo A (1, 0, σ)) 4 60 (fun q => A q ∨ q = qo) := by
  refine e_entry (by decide) rfl (Nat.le_of_ble_eq_true rfl) ?_
  intro p e s m args below meth c hx hb hr hml hts hown hlocks hin hP hK hZ htab ls hl
  obtain ⟨hM, hA, hO⟩ := hP
  have hl : lv_has ls 4 [(0, .ref (g 0)), (1, .int x), (2, .ref qo)] := hl
  have hown : s.vm.findClass RL = some m.cls := hown
  have hS : va_S (fun q => A q ∨ q = qo) s.heap s.heap [] := va_S.rf
  have hM0 := hM.up (B := fun q => A q ∨ q = qo) (fun _ h => Or.inl h)
  refine lv_aload_n hx hb dL_best_0 rfl (lv_at hl 2 rfl) ?_
  refine lv_iconst (v := 0) hx hb dL_best_1 (by decide) ?_
  refine lv_aload_n hx hb dL_best_2 rfl (lv_at hl 0 rfl) ?_
  refine lv_iload_n hx hb dL_best_3 rfl (lv_at hl 1 rfl) ?_
  refine m_xV 1 [.int x] [.int 0, .ref qo] hx hb hml hown hts hK (x_best1 l hl9 E A g M σ hv hw x hbad) gL_best_X4_best rfl rfl rfl (by decide +kernel) rfl ⟨Nat.le_of_ble_eq_true rfl, Nat.le_of_ble_eq_true rfl⟩ hM (CW.x hw) rfl rfl (by exact hM) hl.1 (Nat.le_of_ble_eq_true rfl) ⟨Nat.le_of_ble_eq_true rfl, Nat.le_of_ble_eq_true rfl⟩ rfl dL_best_4 hZ (fun _ h => Or.inl h) hS (fun ce q9 H locs hz9 hk9 hS hce hcv hcl => ?_)
  refine vx_catch (own := RL) (name := "java/lang/IndexOutOfBoundsException") hown [] ⟨0, 9, 12, 21⟩ [] (by rw [htab]; rfl) (fun z hz => nomatch hz) (by decide) (by decide) (hts (.classLink RL 21 "java/lang/IndexOutOfBoundsException") (by decide +kernel)) (va_Nw.use rfl (hZ.castE (by simp))) hce hcv hcl ?_
  refine W.eq (g2 := F0 m 12 ls [.ref q9]) rfl ?_
  refine lv_astore_n (lv' := [(3, .ref q9), (0, .ref (g 0)), (1, .int x), (2, .ref qo)]) hx hb dL_best_12 rfl hl (by decide) rfl (fun ls hl => ?_)
  refine lv_iconst (v := 1) hx hb dL_best_13 (by decide) ?_
  exact w_i hx hb hr hlocks dL_best_14 hS (Nat.le_of_ble_eq_true rfl) (Nat.le_of_ble_eq_true rfl) rfl (⟨g, M, rfl, hM.kept (fun t e ht => hk9 _ (hM.lt ht)), ⟨hw, hp, hd⟩, fo, (hk9 _ hO.lt).trans hO, fun h => absurd (show (1 : Int32) = 0 from h) (by decide)⟩)
set_option maxHeartbeats 4000000 in
set_option maxRecDepth 100000 in
theorem w_best (l : Launch) (E : gE) (A : Nat → Prop) (g : Nat → Nat) (M : gM) (σ : Sg) (hv : VS σ) (hw : CW E g M σ) (hp : PW E M σ) (hd : CD M σ) (u : Nat) (hu : u < kU σ) (qo : Nat) (hqo : ¬ A qo) (fo : Nat → Int64) : Met l yL_best wsL_best ({ frames := 30, cells := 4, slots := 60, locals := 1500 } : Room) (Pz E (fun q => A q ∨ q = qo) [.ref (g 0), .int (nI u), .ref qo] (PO E A g M qo fo)) (QO E g qo A (0, (besA σ u (kR σ)).1, σ)) 4 60 (fun q => A q ∨ q = qo) := by
  refine e_entry (by decide) rfl (Nat.le_of_ble_eq_true rfl) ?_
  intro p e s m args below meth c hx hb hr hml hts hown hlocks hin hP hK hZ htab ls hl
  obtain ⟨hM, hA, hO⟩ := hP
  have hl : lv_has ls 4 [(0, .ref (g 0)), (1, .int (nI u)), (2, .ref qo)] := hl
  have hown : s.vm.findClass RL = some m.cls := hown
  have hS : va_S (fun q => A q ∨ q = qo) s.heap s.heap [] := va_S.rf
  have hM0 := hM.up (B := fun q => A q ∨ q = qo) (fun _ h => Or.inl h)
  refine lv_aload_n hx hb dL_best_0 rfl (lv_at hl 2 rfl) ?_
  refine lv_iconst (v := 0) hx hb dL_best_1 (by decide) ?_
  refine lv_aload_n hx hb dL_best_2 rfl (lv_at hl 0 rfl) ?_
  refine lv_iload_n hx hb dL_best_3 rfl (lv_at hl 1 rfl) ?_
  refine m_cV 1 [.int (nI u)] [.int 0, .ref qo] hx hb hml hown hts hK (c_best l E A g M σ hv hw hp u hu) gL_best_X4_best rfl rfl rfl (by decide +kernel) rfl ⟨Nat.le_of_ble_eq_true rfl, Nat.le_of_ble_eq_true rfl⟩ hM0 (CW.x hw) rfl rfl hM hl.1 (Nat.le_of_ble_eq_true rfl) ⟨Nat.le_of_ble_eq_true rfl, Nat.le_of_ble_eq_true rfl⟩ rfl dL_best_4 ?_
  refine W.eq (g2 := F0 m 7 ls [.int ((besA σ u (kR σ)).1), .int 0, .ref qo]) rfl ?_
  refine lv_i2l hx hb dL_best_7 rfl ?_
  refine o_last hx hb hK hO (Or.inr rfl) hS dL_best_8 (fun H locs f1 hO hf1 hz hk hS => ?_)
  have hM := hM.kept (fun t e ht => hk _ (fun h => hqo (h ▸ (hM.1 t e ht).2)))
  refine lv_goto (tgt := 15) hx hb dL_best_9 (by decide) ?_
  refine lv_iconst (v := 0) hx hb dL_best_15 (by decide) ?_
  exact w_i hx hb hr hlocks dL_best_16 hS (Nat.le_of_ble_eq_true rfl) (Nat.le_of_ble_eq_true rfl) rfl (⟨g, M, rfl, hM, ⟨hw, hp, hd⟩, f1, hO, fun _ => hf1.trans (rfl)⟩)
set_option maxHeartbeats 4000000 in
set_option maxRecDepth 100000 in
theorem w_scares1 (l : Launch) (hl9 : l.stackTraces = false) (E : gE) (A : Nat → Prop) (g : Nat → Nat) (M : gM) (σ : Sg) (hv : VS σ) (hw : CW E g M σ) (hp : PW E M σ) (hd : CD M σ) (x : Int32) (hbad : ¬ (0 ≤ x ∧ x < nI (kG σ))) (qo : Nat) (hqo : ¬ A qo) (fo : Nat → Int64) : Met l yL_scares wsL_scares ({ frames := 30, cells := 4, slots := 60, locals := 1500 } : Room) (Pz E (fun q => A q ∨ q = qo) [.ref (g 0), .int x, .ref qo] (PO E A g M qo fo)) (QO E g qo A (1, 0, σ)) 4 60 (fun q => A q ∨ q = qo) := by
  refine e_entry (by decide) rfl (Nat.le_of_ble_eq_true rfl) ?_
  intro p e s m args below meth c hx hb hr hml hts hown hlocks hin hP hK hZ htab ls hl
  obtain ⟨hM, hA, hO⟩ := hP
  have hl : lv_has ls 4 [(0, .ref (g 0)), (1, .int x), (2, .ref qo)] := hl
  have hown : s.vm.findClass RL = some m.cls := hown
  have hS : va_S (fun q => A q ∨ q = qo) s.heap s.heap [] := va_S.rf
  have hM0 := hM.up (B := fun q => A q ∨ q = qo) (fun _ h => Or.inl h)
  refine lv_aload_n hx hb dL_scares_0 rfl (lv_at hl 2 rfl) ?_
  refine lv_iconst (v := 0) hx hb dL_scares_1 (by decide) ?_
  refine lv_aload_n hx hb dL_scares_2 rfl (lv_at hl 0 rfl) ?_
  refine lv_iload_n hx hb dL_scares_3 rfl (lv_at hl 1 rfl) ?_
  refine m_xV 1 [.int x] [.int 0, .ref qo] hx hb hml hown hts hK (x_scares1 l hl9 E A g M σ hv hw x hbad) gL_scares_X4_scares rfl rfl rfl (by decide +kernel) rfl ⟨Nat.le_of_ble_eq_true rfl, Nat.le_of_ble_eq_true rfl⟩ hM (CW.x hw) rfl rfl (by exact hM) hl.1 (Nat.le_of_ble_eq_true rfl) ⟨Nat.le_of_ble_eq_true rfl, Nat.le_of_ble_eq_true rfl⟩ rfl dL_scares_4 hZ (fun _ h => Or.inl h) hS (fun ce q9 H locs hz9 hk9 hS hce hcv hcl => ?_)
  refine vx_catch (own := RL) (name := "java/lang/IndexOutOfBoundsException") hown [] ⟨0, 9, 12, 21⟩ [] (by rw [htab]; rfl) (fun z hz => nomatch hz) (by decide) (by decide) (hts (.classLink RL 21 "java/lang/IndexOutOfBoundsException") (by decide +kernel)) (va_Nw.use rfl (hZ.castE (by simp))) hce hcv hcl ?_
  refine W.eq (g2 := F0 m 12 ls [.ref q9]) rfl ?_
  refine lv_astore_n (lv' := [(3, .ref q9), (0, .ref (g 0)), (1, .int x), (2, .ref qo)]) hx hb dL_scares_12 rfl hl (by decide) rfl (fun ls hl => ?_)
  refine lv_iconst (v := 1) hx hb dL_scares_13 (by decide) ?_
  exact w_i hx hb hr hlocks dL_scares_14 hS (Nat.le_of_ble_eq_true rfl) (Nat.le_of_ble_eq_true rfl) rfl (⟨g, M, rfl, hM.kept (fun t e ht => hk9 _ (hM.lt ht)), ⟨hw, hp, hd⟩, fo, (hk9 _ hO.lt).trans hO, fun h => absurd (show (1 : Int32) = 0 from h) (by decide)⟩)
set_option maxHeartbeats 4000000 in
set_option maxRecDepth 100000 in
theorem w_scares (l : Launch) (E : gE) (A : Nat → Prop) (g : Nat → Nat) (M : gM) (σ : Sg) (hv : VS σ) (hw : CW E g M σ) (hp : PW E M σ) (hd : CD M σ) (i : Nat) (hi : i < kG σ) (qo : Nat) (hqo : ¬ A qo) (fo : Nat → Int64) : Met l yL_scares wsL_scares ({ frames := 30, cells := 4, slots := 60, locals := 1500 } : Room) (Pz E (fun q => A q ∨ q = qo) [.ref (g 0), .int (nI i), .ref qo] (PO E A g M qo fo)) (QO E g qo A (0, bkA σ (-1) (kR σ) - bkA σ (nI i) (kR σ), σ)) 4 60 (fun q => A q ∨ q = qo) := by
  refine e_entry (by decide) rfl (Nat.le_of_ble_eq_true rfl) ?_
  intro p e s m args below meth c hx hb hr hml hts hown hlocks hin hP hK hZ htab ls hl
  obtain ⟨hM, hA, hO⟩ := hP
  have hl : lv_has ls 4 [(0, .ref (g 0)), (1, .int (nI i)), (2, .ref qo)] := hl
  have hown : s.vm.findClass RL = some m.cls := hown
  have hS : va_S (fun q => A q ∨ q = qo) s.heap s.heap [] := va_S.rf
  have hM0 := hM.up (B := fun q => A q ∨ q = qo) (fun _ h => Or.inl h)
  refine lv_aload_n hx hb dL_scares_0 rfl (lv_at hl 2 rfl) ?_
  refine lv_iconst (v := 0) hx hb dL_scares_1 (by decide) ?_
  refine lv_aload_n hx hb dL_scares_2 rfl (lv_at hl 0 rfl) ?_
  refine lv_iload_n hx hb dL_scares_3 rfl (lv_at hl 1 rfl) ?_
  refine m_cV 1 [.int (nI i)] [.int 0, .ref qo] hx hb hml hown hts hK (c_scares l E A g M σ hv hw hp i hi) gL_scares_X4_scares rfl rfl rfl (by decide +kernel) rfl ⟨Nat.le_of_ble_eq_true rfl, Nat.le_of_ble_eq_true rfl⟩ hM0 (CW.x hw) rfl rfl hM hl.1 (Nat.le_of_ble_eq_true rfl) ⟨Nat.le_of_ble_eq_true rfl, Nat.le_of_ble_eq_true rfl⟩ rfl dL_scares_4 ?_
  refine W.eq (g2 := F0 m 7 ls [.int (bkA σ (-1) (kR σ) - bkA σ (nI i) (kR σ)), .int 0, .ref qo]) rfl ?_
  refine lv_i2l hx hb dL_scares_7 rfl ?_
  refine o_last hx hb hK hO (Or.inr rfl) hS dL_scares_8 (fun H locs f1 hO hf1 hz hk hS => ?_)
  have hM := hM.kept (fun t e ht => hk _ (fun h => hqo (h ▸ (hM.1 t e ht).2)))
  refine lv_goto (tgt := 15) hx hb dL_scares_9 (by decide) ?_
  refine lv_iconst (v := 0) hx hb dL_scares_15 (by decide) ?_
  exact w_i hx hb hr hlocks dL_scares_16 hS (Nat.le_of_ble_eq_true rfl) (Nat.le_of_ble_eq_true rfl) rfl (⟨g, M, rfl, hM, ⟨hw, hp, hd⟩, f1, hO, fun _ => hf1.trans (rfl)⟩)
