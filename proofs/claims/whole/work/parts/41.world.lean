/-! THE LAW'S OWN WORLD -/
def dmM (g : Nat → Nat) (M : gM) (q : Nat) : Prop := ∃ t e, M t = some e ∧ g t = q
theorem mP.on {E : gE} {A B : Nat → Prop} {g : Nat → Nat} {M : gM} {H : Heap} (h : mP E A g M H) (hB : ∀ q, dmM g M q → B q) : mP E B g M H := ⟨fun t e ht => ⟨(h.1 t e ht).1, hB _ ⟨t, e, ht, rfl⟩⟩, h.2⟩
theorem dmM.lt {E : gE} {A : Nat → Prop} {g : Nat → Nat} {M : gM} {H : Heap} {q : Nat} (h : mP E A g M H) (hq : dmM g M q) : q < H.size := by
  obtain ⟨t, e, ht, rfl⟩ := hq
  exact (h.1 t e ht).1.lt
theorem dmM.ok {E : gE} {A : Nat → Prop} {g : Nat → Nat} {M : gM} {H : Heap} {q : Nat} (h : mP E A g M H) (hq : dmM g M q) : A q := by
  obtain ⟨t, e, ht, rfl⟩ := hq
  exact (h.1 t e ht).2
/-- the class's world at x0 with the state σ1, the reference's at m0 with σ2 and th, the row at qo; they share no cell, and none was there before -/
def LI (E : gE) (N x0 m0 qo : Nat) (σ1 σ2 : Sg) (th : Int32) (f : Nat → Int64) (H : Heap) : Prop :=
  ∃ (g1 : Nat → Nat) (M1 : gM) (g2 : Nat → Nat) (M2 : gM), (g1 0 = x0 ∧ mP E (fun q => N ≤ q) g1 M1 H ∧ CX E g1 M1 σ1) ∧ (g2 0 = m0 ∧ mP E (fun q => N ≤ q) g2 M2 H ∧ MW E g2 M2 σ2 th) ∧ (oC E qo f H ∧ N ≤ qo) ∧ (∀ q, dmM g1 M1 q → ¬ dmM g2 M2 q) ∧ ¬ dmM g1 M1 qo ∧ ¬ dmM g2 M2 qo
theorem LI.c1 {E : gE} {N x0 m0 qo : Nat} {σ1 σ2 : Sg} {th : Int32} {f : Nat → Int64} {H : Heap} (h : LI E N x0 m0 qo σ1 σ2 th f H) (hN : N ≤ H.size) : ∃ (A : Nat → Prop) (g : Nat → Nat) (M : gM), g 0 = x0 ∧ PO E A g M qo f H ∧ CX E g M σ1 ∧ ¬ A qo ∧ (∀ q, A q → N ≤ q) ∧ N ≤ qo ∧
    ∀ (H1 : Heap) (g' : Nat → Nat) (M' : gM) (σ' : Sg) (f' : Nat → Int64), g' 0 = g 0 → mP E A g' M' H1 → CX E g' M' σ' → oC E qo f' H1 → (∀ q : Nat, q < H.size → ¬ (A q ∨ q = qo) → H1[q]? = H[q]?) → LI E N x0 m0 qo σ' σ2 th f' H1 := by
  obtain ⟨g1, M1, g2, M2, ⟨a1, a2, a3⟩, ⟨b1, b2, b3⟩, ⟨c1, c2⟩, d1, d2, d3⟩ := h
  have hAN : ∀ q, (dmM g1 M1 q ∨ H.size ≤ q) → N ≤ q := fun q hq => by
    rcases hq with hq | hq
    · exact dmM.ok a2 hq
    · omega
  have hqo : ¬ (dmM g1 M1 qo ∨ H.size ≤ qo) := fun hq => by
    rcases hq with hq | hq
    · exact d2 hq
    · have := c1.lt
      omega
  have hno : ∀ q, dmM g2 M2 q → ¬ (dmM g1 M1 q ∨ H.size ≤ q) := fun q hq hx => by
    rcases hx with hx | hx
    · exact d1 q hx hq
    · have := dmM.lt b2 hq
      omega
  refine ⟨fun q => dmM g1 M1 q ∨ H.size ≤ q, g1, M1, a1, ⟨a2.on fun q hq => Or.inl hq, fun q hq => Or.inr hq, c1⟩, a3, hqo, hAN, c2, fun H1 g' M' σ' f' e1 e2 e3 e4 e5 => ?_⟩
  refine ⟨g', M', g2, M2, ⟨e1.trans a1, e2.on fun q hq => hAN q (dmM.ok e2 hq), e3⟩, ⟨b1, b2.kept fun t e ht => ?_, b3⟩, ⟨e4, c2⟩, fun q hq hx => hno q hx (dmM.ok e2 hq), fun hq => hqo (dmM.ok e2 hq), d3⟩
  have hd : dmM g2 M2 (g2 t) := ⟨t, e, ht, rfl⟩
  exact e5 _ (dmM.lt b2 hd) (fun hx => by
    rcases hx with hx | hx
    · exact hno _ hd hx
    · exact d3 (hx ▸ hd))
theorem LI.m1 {E : gE} {N x0 m0 qo : Nat} {σ1 σ2 : Sg} {th : Int32} {f : Nat → Int64} {H : Heap} (h : LI E N x0 m0 qo σ1 σ2 th f H) (hN : N ≤ H.size) : ∃ (A : Nat → Prop) (g : Nat → Nat) (M : gM), g 0 = m0 ∧ PM E A g M H ∧ MW E g M σ2 th ∧ (∀ q, A q → N ≤ q) ∧
    ∀ (H1 : Heap) (M' : gM) (σ' : Sg) (th' : Int32), mP E A g M' H1 → MW E g M' σ' th' → (∀ q : Nat, q < H.size → ¬ A q → H1[q]? = H[q]?) → LI E N x0 m0 qo σ1 σ' th' f H1 := by
  obtain ⟨g1, M1, g2, M2, ⟨a1, a2, a3⟩, ⟨b1, b2, b3⟩, ⟨c1, c2⟩, d1, d2, d3⟩ := h
  have hAN : ∀ q, (dmM g2 M2 q ∨ H.size ≤ q) → N ≤ q := fun q hq => by
    rcases hq with hq | hq
    · exact dmM.ok b2 hq
    · omega
  have hqo : ¬ (dmM g2 M2 qo ∨ H.size ≤ qo) := fun hq => by
    rcases hq with hq | hq
    · exact d3 hq
    · have := c1.lt
      omega
  have hno : ∀ q, dmM g1 M1 q → ¬ (dmM g2 M2 q ∨ H.size ≤ q) := fun q hq hx => by
    rcases hx with hx | hx
    · exact d1 q hq hx
    · have := dmM.lt a2 hq
      omega
  refine ⟨fun q => dmM g2 M2 q ∨ H.size ≤ q, g2, M2, b1, ⟨b2.on fun q hq => Or.inl hq, fun q hq => Or.inr hq⟩, b3, hAN, fun H1 M' σ' th' e2 e3 e5 => ?_⟩
  refine ⟨g1, M1, g2, M', ⟨a1, a2.kept fun t e ht => ?_, a3⟩, ⟨b1, e2.on fun q hq => hAN q (dmM.ok e2 hq), e3⟩, ⟨(e5 _ c1.lt hqo).trans c1, c2⟩, fun q hq hx => hno q hq (dmM.ok e2 hx), d2, fun hq => hqo (dmM.ok e2 hq)⟩
  have hd : dmM g1 M1 (g1 t) := ⟨t, e, ht, rfl⟩
  exact e5 _ (dmM.lt a2 hd) (hno _ hd)
section LC
variable {p : Program} {l : Launch} {e : Env} {R : Room} {s : State} {m : MethodId} {args : Array Value} {below : List Frame} {meth : Method} {c : Code} {H : Heap} {locs : List Loc} {cells slots : Nat} {Q : State → Prop}
variable {cc bytes : ByteArray} {pc : Nat} {ls : Array Slot} {rest st0 : List Value} {E : gE} {Ts ws ws' : List Cond} {nL maxL index : Nat} {own : String} {y : MethodName} {ret : Option FieldType} {rm : Room} {x0 m0 qo : Nat} {σ1 σ2 : Sg} {th : Int32} {f : Nat → Int64}
theorem lv_lcmpE (hexec : p.tables.exec = Jvm.exec) (hb : c.code = cc) {x y : Int64} (hxy : x = y) (hdg : decode cc pc = .ok (.lcmp, 1))
    (k : W p l e R s m args below meth c H locs cells slots Q (F0 m (pc + 1) ls (.int 0 :: rest))) : W p l e R s m args below meth c H locs cells slots Q (F0 m pc ls (.long y :: .long x :: rest)) := by
  subst hxy
  intro T hT X
  obtain ⟨t, a, b⟩ := k T hT X
  refine ⟨t, ?_, b⟩
  have h9 : ∀ z : Int64, ¬ z < z := fun z => Int64.lt_irrefl
  jvm_step X.here [X.here.top, hexec, hb, hdg, h9]
  exact a
theorem o_lald (hexec : p.tables.exec = Jvm.exec) (hb : c.code = cc) (hK : kK E s) (ho : oC E qo f H) (hdg : decode cc pc = .ok (.laload, 1))
    (kk : W p l e R s m args below meth c H locs cells slots Q (F0 m (pc + 1) ls (.long (f 0) :: rest))) : W p l e R s m args below meth c H locs cells slots Q (F0 m pc ls (.int 0 :: .ref qo :: rest)) := by
  have hP : va_P E.1 vwCl [(qo, .inl (E.2.2.1, 1, .inr (.inl f)))] H := by
    intro k q hk
    cases k with
    | zero => simp at hk; subst hk; exact ho
    | succ k => simp at hk
  exact va_lald (D := E.1) hexec hb hK hP 0 1 rfl rfl (by unfold vp_in; decide) hdg kk
/-- a wrapper's call -/
theorem l_w (n : Nat) {o : oT} {hh : List (Nat × Nat × Nat × Nat)} (av rest : List Value) (hx : p.tables.exec = Jvm.exec) (hb : c.code = cc) (hml : c.maxLocals = nL) (hown : s.vm.findClass own = some m.cls) (hts : ∀ w ∈ Ts, w.before args s = true) (hK : kK E s) (hZ : Zx E (fun q => s.heap.size ≤ q) s s.heap)
    (hM : ∀ (A : Nat → Prop) (g : Nat → Nat) (M : gM) (fo : Nat → Int64), CX E g M σ1 → ¬ A qo → Met l y ws ({ frames := 30, cells := 4, slots := 60, locals := 1500 } : Room) (Pz E (fun q => A q ∨ q = qo) (.ref (g 0) :: (av ++ [.ref qo])) (PO E A g M qo fo)) (QO E g qo A o) 4 60 (fun q => A q ∨ q = qo)) (hG : GoodIn Ts (va_wsS own index y ws)) (hw : ws = Cond.codeWith y bytes maxL ret hh :: ws')
    (hd : y.cls ≠ "java/lang/invoke/MethodHandle" ∧ y.cls ≠ "java/lang/invoke/VarHandle" ∧ (parseMethodDescriptor y.desc).map (fun d => d.parameters.length) = some n) (hn : (Value.ref x0 :: (av ++ [.ref qo])).length = n) (hR : ({ frames := 30, cells := 4, slots := 60, locals := 1500 } : Room).frames + 1 ≤ R.frames ∧ 8 + (maxL + 11) + ({ frames := 30, cells := 4, slots := 60, locals := 1500 } : Room).locals ≤ R.locals) (hsz : ls.size = nL) (hcat : (rest.map fun v => v.category).sum ≤ 8) (hf : cells + 4 ≤ R.cells ∧ slots + 60 ≤ R.slots) (hst : st0 = (Value.ref x0 :: (av ++ [.ref qo])).reverse ++ rest) (hdg : decode cc pc = .ok (.invokestatic index, 3)) (hS : va_S (fun q => s.heap.size ≤ q) s.heap H locs) (hI : LI E s.heap.size x0 m0 qo σ1 σ2 th f H)
    (kk : ∀ (H1 : Heap) (locs1 : List Loc) (f1 : Nat → Int64), LI E s.heap.size x0 m0 qo o.2.2 σ2 th f1 H1 → (o.1 = 0 → f1 0 = o.2.1.toInt64) → va_S (fun q => s.heap.size ≤ q) s.heap H1 locs1 → W p l e R s m args below meth c H1 locs1 (cells + 4) (slots + 60) Q (F0 m (pc + 3) ls (.int o.1 :: rest))) : W p l e R s m args below meth c H locs cells slots Q (F0 m pc ls st0) := by
  subst hst
  obtain ⟨A, g, M, rfl, hPO, hC, hqo, hAN, hNq, back⟩ := hI.c1 hS.1
  have hA2 : ∀ q, (A q ∨ q = qo) → s.heap.size ≤ q := fun q hq => by
    rcases hq with hq | hq
    · exact hAN q hq
    · rw [hq]; exact hNq
  refine m_wrun (A1 := fun q => A q ∨ q = qo) (free := fun q => A q ∨ q = qo) (vx_runSW (As := Value.ref (g 0) :: (av ++ [.ref qo])) (rest := rest) ⟨hx, hb, hml, hown, hts⟩ (hM A g M f hC hqo) (vx_cwSW n hts hG hw rfl rfl hd hR) (Pz.preS hK hZ hS hA2 hPO) rfl hn hsz rfl (lv_room hcat) hdg hf) hS (fun q _ h => hA2 q h) hA2 (fun H1 locs1 hQ hz hk hS => ?_)
  obtain ⟨g', M', e0, e1, e2, f', e3, e4⟩ := hQ
  exact kk H1 locs1 f' (back H1 g' M' _ f' e0 e1 e2 e3 hk) e4 hS
/-- the reference's call -/
theorem l_m (n : Nat) {o : oT} (av rest : List Value) (hx : p.tables.exec = Jvm.exec) (hb : c.code = cc) (hml : c.maxLocals = nL) (hown : s.vm.findClass own = some m.cls) (hts : ∀ w ∈ Ts, w.before args s = true) (hK : kK E s)
    (hM : ∀ (A : Nat → Prop) (g : Nat → Nat) (M : gM), MW E g M σ2 th → Met l y ws ({ frames := 30, cells := 1, slots := 8, locals := 1500 } : Room) (Pm E (.ref (g 0) :: av) (PM E A g M)) (QM E g A o) 1 8 A) (hG : GoodIn Ts (wsV own index RX5 y ws)) (hw : ws = Cond.code y bytes maxL ret :: ws')
    (hd : y.cls = RX5 ∧ y.cls ≠ "java/lang/invoke/MethodHandle" ∧ y.cls ≠ "java/lang/invoke/VarHandle" ∧ (parseMethodDescriptor y.desc).map (fun d => d.parameters.length) = some n) (hn : av.length = n) (hR : ({ frames := 30, cells := 1, slots := 8, locals := 1500 } : Room).frames + 1 ≤ R.frames ∧ 8 + (maxL + 11) + ({ frames := 30, cells := 1, slots := 8, locals := 1500 } : Room).locals ≤ R.locals) (hsz : ls.size = nL) (hcat : (rest.map fun v => v.category).sum ≤ 8) (hf : cells + 1 ≤ R.cells ∧ slots + 8 ≤ R.slots) (hst : st0 = av.reverse ++ .ref m0 :: rest) (hdg : decode cc pc = .ok (.invokevirtual index, 3)) (hS : va_S (fun q => s.heap.size ≤ q) s.heap H locs) (hI : LI E s.heap.size x0 m0 qo σ1 σ2 th f H)
    (kk : ∀ (H1 : Heap) (locs1 : List Loc), LI E s.heap.size x0 m0 qo σ1 o.2.2 o.1 f H1 → va_S (fun q => s.heap.size ≤ q) s.heap H1 locs1 → W p l e R s m args below meth c H1 locs1 (cells + 1) (slots + 8) Q (F0 m (pc + 3) ls (.int o.2.1 :: rest))) : W p l e R s m args below meth c H locs cells slots Q (F0 m pc ls st0) := by
  obtain ⟨A, g, M, rfl, hPM, hW, hAN, back⟩ := hI.m1 hS.1
  refine m_wV (A1 := A) (free := A) n av rest hx hb hml hown hts hK (hM A g M hW) hG hw rfl rfl hd hn hR (hPM.1.up hAN) (MW.x hW) rfl rfl hPM hsz hcat hf hst hdg hS (fun q _ h => hAN q h) hAN (fun H1 locs1 hQ hz hk hS => ?_)
  obtain ⟨M', e1, e2⟩ := hQ
  exact kk H1 locs1 (back H1 M' _ _ e1 e2 hk) hS
theorem l_m0 {v : Value} {σ' : Sg} (rest : List Value) (hx : p.tables.exec = Jvm.exec) (hb : c.code = cc) (hml : c.maxLocals = nL) (hown : s.vm.findClass own = some m.cls) (hts : ∀ w ∈ Ts, w.before args s = true) (hK : kK E s)
    (hM : ∀ (A : Nat → Prop) (g : Nat → Nat) (M : gM), MW E g M σ2 th → Met l y ws rm (Pm E [.ref (g 0)] (mP E A g M)) (QW (some v) (fun H => ∃ M', mP E A g M' H ∧ MW E g M' σ' 0) A) 0 0 A) (hG : GoodIn Ts (wsV own index RX5 y ws)) (hw : ws = Cond.code y bytes maxL ret :: ws') (hrc : rm.cells = 0) (hrs : rm.slots = 0)
    (hd : y.cls = RX5 ∧ y.cls ≠ "java/lang/invoke/MethodHandle" ∧ y.cls ≠ "java/lang/invoke/VarHandle" ∧ (parseMethodDescriptor y.desc).map (fun d => d.parameters.length) = some 0) (hR : rm.frames + 1 ≤ R.frames ∧ 8 + (maxL + 11) + rm.locals ≤ R.locals) (hsz : ls.size = nL) (hcat : (rest.map fun v => v.category).sum ≤ 8) (hf : cells ≤ R.cells ∧ slots ≤ R.slots) (hdg : decode cc pc = .ok (.invokevirtual index, 3)) (hS : va_S (fun q => s.heap.size ≤ q) s.heap H locs) (hI : LI E s.heap.size x0 m0 qo σ1 σ2 th f H)
    (kk : ∀ (H1 : Heap) (locs1 : List Loc), LI E s.heap.size x0 m0 qo σ1 σ' 0 f H1 → va_S (fun q => s.heap.size ≤ q) s.heap H1 locs1 → W p l e R s m args below meth c H1 locs1 cells slots Q (F0 m (pc + 3) ls (v :: rest))) : W p l e R s m args below meth c H locs cells slots Q (F0 m pc ls (.ref m0 :: rest)) := by
  obtain ⟨A, g, M, rfl, hPM, hW, hAN, back⟩ := hI.m1 hS.1
  refine m_wV (A1 := A) (free := A) 0 [] rest hx hb hml hown hts hK (hM A g M hW) hG hw hrc hrs hd rfl hR (hPM.1.up hAN) (MW.x hW) rfl rfl hPM.1 hsz hcat hf rfl hdg hS (fun q _ h => hAN q h) hAN (fun H1 locs1 hQ hz hk hS => ?_)
  obtain ⟨M', e1, e2⟩ := hQ
  exact kk H1 locs1 (back H1 M' _ _ e1 e2 hk) hS
theorem l_c0 {v : Value} {σ' : Sg} (rest : List Value) (hx : p.tables.exec = Jvm.exec) (hb : c.code = cc) (hml : c.maxLocals = nL) (hown : s.vm.findClass own = some m.cls) (hts : ∀ w ∈ Ts, w.before args s = true) (hK : kK E s)
    (hM : ∀ (A : Nat → Prop) (g : Nat → Nat) (M : gM), CX E g M σ1 → Met l y ws rm (Pm E [.ref (g 0)] (mP E A g M)) (QW (some v) (fun H => ∃ M', mP E A g M' H ∧ CX E g M' σ') A) 0 0 A) (hG : GoodIn Ts (wsV own index RX4 y ws)) (hw : ws = Cond.code y bytes maxL ret :: ws') (hrc : rm.cells = 0) (hrs : rm.slots = 0)
    (hd : y.cls = RX4 ∧ y.cls ≠ "java/lang/invoke/MethodHandle" ∧ y.cls ≠ "java/lang/invoke/VarHandle" ∧ (parseMethodDescriptor y.desc).map (fun d => d.parameters.length) = some 0) (hR : rm.frames + 1 ≤ R.frames ∧ 8 + (maxL + 11) + rm.locals ≤ R.locals) (hsz : ls.size = nL) (hcat : (rest.map fun v => v.category).sum ≤ 8) (hf : cells ≤ R.cells ∧ slots ≤ R.slots) (hdg : decode cc pc = .ok (.invokevirtual index, 3)) (hS : va_S (fun q => s.heap.size ≤ q) s.heap H locs) (hI : LI E s.heap.size x0 m0 qo σ1 σ2 th f H)
    (kk : ∀ (H1 : Heap) (locs1 : List Loc), LI E s.heap.size x0 m0 qo σ' σ2 th f H1 → va_S (fun q => s.heap.size ≤ q) s.heap H1 locs1 → W p l e R s m args below meth c H1 locs1 cells slots Q (F0 m (pc + 3) ls (v :: rest))) : W p l e R s m args below meth c H locs cells slots Q (F0 m pc ls (.ref x0 :: rest)) := by
  obtain ⟨A, g, M, rfl, hPO, hC, hqo, hAN, hNq, back⟩ := hI.c1 hS.1
  refine m_wV (A1 := A) (free := A) 0 [] rest hx hb hml hown hts hK (hM A g M hC) hG hw hrc hrs hd rfl hR (hPO.1.up hAN) (CW.x hC.1) rfl rfl hPO.1 hsz hcat hf rfl hdg hS (fun q _ h => hAN q h) hAN (fun H1 locs1 hQ hz hk hS => ?_)
  obtain ⟨M', e1, e2⟩ := hQ
  exact kk H1 locs1 (back H1 g M' _ f rfl e1 e2 ((hk _ hPO.2.2.lt hqo).trans hPO.2.2) (fun q h1 h2 => hk q h1 (fun h => h2 (Or.inl h)))) hS
theorem l_cr {v : Value} (rest : List Value) (hx : p.tables.exec = Jvm.exec) (hb : c.code = cc) (hml : c.maxLocals = nL) (hown : s.vm.findClass own = some m.cls) (hts : ∀ w ∈ Ts, w.before args s = true) (hK : kK E s)
    (hM : ∀ (A : Nat → Prop) (g : Nat → Nat) (M : gM), CX E g M σ1 → Met l y ws rm (Pm E [.ref (g 0)] (mP E A g M)) (k2_QcV v) 0 0 (fun _ => False)) (hG : GoodIn Ts (wsV own index RX4 y ws)) (hw : ws = Cond.code y bytes maxL ret :: ws') (hrc : rm.cells = 0) (hrs : rm.slots = 0)
    (hd : y.cls = RX4 ∧ y.cls ≠ "java/lang/invoke/MethodHandle" ∧ y.cls ≠ "java/lang/invoke/VarHandle" ∧ (parseMethodDescriptor y.desc).map (fun d => d.parameters.length) = some 0) (hR : rm.frames + 1 ≤ R.frames ∧ 8 + (maxL + 11) + rm.locals ≤ R.locals) (hsz : ls.size = nL) (hcat : (rest.map fun v => v.category).sum ≤ 8) (hf : cells ≤ R.cells ∧ slots ≤ R.slots) (hdg : decode cc pc = .ok (.invokevirtual index, 3)) (hS : va_S (fun q => s.heap.size ≤ q) s.heap H locs) (hI : LI E s.heap.size x0 m0 qo σ1 σ2 th f H)
    (kk : W p l e R s m args below meth c H locs cells slots Q (F0 m (pc + 3) ls (v :: rest))) : W p l e R s m args below meth c H locs cells slots Q (F0 m pc ls (.ref x0 :: rest)) := by
  obtain ⟨A, g, M, rfl, hPO, hC, hqo, hAN, hNq, back⟩ := hI.c1 hS.1
  exact m_cV 0 [] rest hx hb hml hown hts hK (hM A g M hC) hG hw hrc hrs hd rfl hR hPO.1 (CW.x hC.1) rfl rfl hPO.1 hsz hcat hf rfl hdg kk
theorem l_th (rest : List Value) (hx : p.tables.exec = Jvm.exec) (hb : c.code = cc) (hml : c.maxLocals = nL) (hown : s.vm.findClass own = some m.cls) (hts : ∀ w ∈ Ts, w.before args s = true) (hK : kK E s) (hG : GoodIn Ts (wsV own index RX5 yX5_thrown wsX5_thrown)) (hR : 1 ≤ R.frames ∧ 8 + (1 + 11) + 0 ≤ R.locals) (hsz : ls.size = nL) (hcat : (rest.map fun v => v.category).sum ≤ 8) (hf : cells ≤ R.cells ∧ slots ≤ R.slots) (hdg : decode cc pc = .ok (.invokevirtual index, 3)) (hS : va_S (fun q => s.heap.size ≤ q) s.heap H locs) (hI : LI E s.heap.size x0 m0 qo σ1 σ2 th f H)
    (kk : W p l e R s m args below meth c H locs cells slots Q (F0 m (pc + 3) ls (.int th :: rest))) : W p l e R s m args below meth c H locs cells slots Q (F0 m pc ls (.ref m0 :: rest)) := by
  obtain ⟨A, g, M, rfl, hPM, hW, hAN, back⟩ := hI.m1 hS.1
  exact m_cV 0 [] rest hx hb hml hown hts hK (c_thrown l E A g M σ2 th hW) hG rfl rfl rfl (by decide +kernel) rfl hR hPM.1 (MW.x hW) rfl rfl hPM.1 hsz hcat hf rfl hdg kk
/-- a call that may draw -/
theorem m_drun {cs : List Choice} {d0 : Drawn} (hd0 : s.drawn.sameBut d0 cs) {x : UInt64} {Ph : Heap → Prop} {A A1 : Nat → Prop} {free : Addr → Prop} {a : Array Value} {mc ms : Nat} {H0 : Heap} (hr : va_RunD cs p l e R (s.setDrawn d0) m args below meth c H locs cells slots mc ms (F0 m pc ls st0) rest (QD x Ph A1 a) free) (hS : va_S A H0 H locs) (hA : ∀ q, q < H.size → A1 q → A q) (hf : ∀ q, free q → A q)
    (kk : ∀ (r : UInt64) (H1 : Heap) (locs1 : List Loc), alike64 r x = true → Ph H1 → H.size ≤ H1.size → (∀ q : Nat, q < H.size → ¬ A1 q → H1[q]? = H[q]?) → va_S A H0 H1 locs1 → ∀ d' : Drawn, s.drawn.sameBut d' cs → W p l e R (s.setDrawn d') m args below meth c H1 locs1 (cells + mc) (slots + ms) Q (F0 m (pc + 3) ls (.double r :: rest))) : W p l e R (s.setDrawn d0) m args below meth c H locs cells slots Q (F0 m pc ls st0) := by
  intro T hT X
  obtain ⟨v, st₀, t, T', L, d', hd', h0, X', hL, e1, e2, ⟨r, hv, hal, hp, hz, hk⟩, st⟩ := hr T hT X
  cases hv
  rw [h0] at hz hk
  obtain ⟨t2, a1, b1⟩ := kk r T'.heap (locs ++ L) hal (by rw [e1]; exact hp) (by rw [e1]; exact hz) (fun q h1 h2 => by rw [e1]; exact hk q h1 h2)
    ⟨Nat.le_trans hS.1 (by rw [e1]; exact hz), fun q h1 h2 => by rw [e1, hk q (Nat.lt_of_lt_of_le h1 hS.1) (fun z => h2 (hA q (Nat.lt_of_lt_of_le h1 hS.1) z))]; exact hS.2.1 q h1 h2, fun q hq => by
      rcases List.mem_append.mp hq with h | h
      · exact hS.2.2 q h
      · exact hf _ (hL q h)⟩ d' (hd0.trans hd') T' rfl X'
  exact ⟨t2, st t2 a1, b1⟩
theorem l_dm {d0 : Drawn} (hd0 : s.drawn.sameBut d0 lw_cs) {x : UInt64} (rest : List Value) (hx : p.tables.exec = Jvm.exec) (hb : c.code = cc) (hml : c.maxLocals = nL) (hown : s.vm.findClass own = some m.cls) (hts : ∀ w ∈ Ts, w.before args (s.setDrawn d0) = true) (hK : kK E (s.setDrawn d0))
    (hM : ∀ (A : Nat → Prop) (g : Nat → Nat) (M : gM), MW E g M σ2 th → MetD lw_cs l y ws rm (Pm E [.ref (g 0)] (mP E A g M)) (QD x (fun H => ∃ M', mP E A g M' H ∧ MW E g M' σ2 0) A) 0 0 A) (hG : GoodIn Ts (wsV own index RX5 y ws)) (hw : ws = Cond.code y bytes maxL ret :: ws') (hrc : rm.cells = 0) (hrs : rm.slots = 0)
    (hd : y.cls = RX5 ∧ y.cls ≠ "java/lang/invoke/MethodHandle" ∧ y.cls ≠ "java/lang/invoke/VarHandle" ∧ (parseMethodDescriptor y.desc).map (fun d => d.parameters.length) = some 0) (hR : rm.frames + 1 ≤ R.frames ∧ 8 + (maxL + 11) + rm.locals ≤ R.locals) (hsz : ls.size = nL) (hcat : (rest.map fun v => v.category).sum ≤ 8) (hf : cells ≤ R.cells ∧ slots ≤ R.slots) (hdg : decode cc pc = .ok (.invokevirtual index, 3)) (hS : va_S (fun q => s.heap.size ≤ q) s.heap H locs) (hI : LI E s.heap.size x0 m0 qo σ1 σ2 th f H)
    (kk : ∀ (r : UInt64) (H1 : Heap) (locs1 : List Loc), alike64 r x = true → LI E s.heap.size x0 m0 qo σ1 σ2 0 f H1 → va_S (fun q => s.heap.size ≤ q) s.heap H1 locs1 → ∀ d' : Drawn, s.drawn.sameBut d' lw_cs → W p l e R (s.setDrawn d') m args below meth c H1 locs1 cells slots Q (F0 m (pc + 3) ls (.double r :: rest))) : W p l e R (s.setDrawn d0) m args below meth c H locs cells slots Q (F0 m pc ls (.ref m0 :: rest)) := by
  obtain ⟨A, g, M, rfl, hPM, hW, hAN, back⟩ := hI.m1 hS.1
  have hr := m_recv hK hPM.1 (MW.x hW) rfl
  refine m_drun hd0 (mc := 0) (ms := 0) (va_runV_D (As := []) (rest := rest) ⟨hx, hb, hml, hown, hts⟩ (hM A g M hW) (cwV 0 hts hG hw hrc hrs hd hR) (Pm.preV hK hPM.1 hr) rfl rfl hsz rfl (lv_room hcat) hdg hf) hS (fun q _ h => hAN q h) hAN (fun r H1 locs1 hal hQ hz hk hS d' hd' => ?_)
  obtain ⟨M', e1, e2⟩ := hQ
  exact kk r H1 locs1 hal (back H1 M' _ _ e1 e2 hk) hS d' hd'
theorem l_dc {d0 : Drawn} (hd0 : s.drawn.sameBut d0 lw_cs) {x : UInt64} (rest : List Value) (hx : p.tables.exec = Jvm.exec) (hb : c.code = cc) (hml : c.maxLocals = nL) (hown : s.vm.findClass own = some m.cls) (hts : ∀ w ∈ Ts, w.before args (s.setDrawn d0) = true) (hK : kK E (s.setDrawn d0))
    (hM : ∀ (A : Nat → Prop) (g : Nat → Nat) (M : gM), CX E g M σ1 → MetD lw_cs l y ws rm (Pm E [.ref (g 0)] (mP E A g M)) (QD x (mP E A g M) A) 0 0 A) (hG : GoodIn Ts (wsV own index RX4 y ws)) (hw : ws = Cond.code y bytes maxL ret :: ws') (hrc : rm.cells = 0) (hrs : rm.slots = 0)
    (hd : y.cls = RX4 ∧ y.cls ≠ "java/lang/invoke/MethodHandle" ∧ y.cls ≠ "java/lang/invoke/VarHandle" ∧ (parseMethodDescriptor y.desc).map (fun d => d.parameters.length) = some 0) (hR : rm.frames + 1 ≤ R.frames ∧ 8 + (maxL + 11) + rm.locals ≤ R.locals) (hsz : ls.size = nL) (hcat : (rest.map fun v => v.category).sum ≤ 8) (hf : cells ≤ R.cells ∧ slots ≤ R.slots) (hdg : decode cc pc = .ok (.invokevirtual index, 3)) (hS : va_S (fun q => s.heap.size ≤ q) s.heap H locs) (hI : LI E s.heap.size x0 m0 qo σ1 σ2 th f H)
    (kk : ∀ (r : UInt64) (H1 : Heap) (locs1 : List Loc), alike64 r x = true → LI E s.heap.size x0 m0 qo σ1 σ2 th f H1 → va_S (fun q => s.heap.size ≤ q) s.heap H1 locs1 → ∀ d' : Drawn, s.drawn.sameBut d' lw_cs → W p l e R (s.setDrawn d') m args below meth c H1 locs1 cells slots Q (F0 m (pc + 3) ls (.double r :: rest))) : W p l e R (s.setDrawn d0) m args below meth c H locs cells slots Q (F0 m pc ls (.ref x0 :: rest)) := by
  obtain ⟨A, g, M, rfl, hPO, hC, hqo, hAN, hNq, back⟩ := hI.c1 hS.1
  have hr := m_recv hK hPO.1 (CW.x hC.1) rfl
  refine m_drun hd0 (mc := 0) (ms := 0) (va_runV_D (As := []) (rest := rest) ⟨hx, hb, hml, hown, hts⟩ (hM A g M hC) (cwV 0 hts hG hw hrc hrs hd hR) (Pm.preV hK hPO.1 hr) rfl rfl hsz rfl (lv_room hcat) hdg hf) hS (fun q _ h => hAN q h) hAN (fun r H1 locs1 hal hQ hz hk hS d' hd' => ?_)
  exact kk r H1 locs1 hal (back H1 g M _ f rfl hQ hC ((hk _ hPO.2.2.lt hqo).trans hPO.2.2) (fun q h1 h2 => hk q h1 (fun h => h2 (Or.inl h)))) hS d' hd'
end LC
