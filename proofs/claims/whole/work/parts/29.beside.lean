/-! WHAT STANDS BESIDE THE WORLD: statics, texts, what may be cast; nobody changes it -/
def zTxt : List (Nat × String) := [(35, "no such beds, comfort or least price"), (46, "there is no place for another room"), (64, "no such room"), (67, "a door joins two rooms"), (80, "there is no place for another door"), (89, "no such fright or hours"), (91, "there is no place for another ghost"), (105, "no such ghost"), (107, "no such hour"), (139, "a room has no such figure"), (141, "no such coins, beds or nerve"), (143, "there is no place for another guest"), (151, "no such guest"), (153, "no such price"), (185, "a guest has no such figure"), (196, "an auction has no such figure"), (214, "the inn has no such figure")]
/-- the address of the class object of Object[] -/
def miE (E : gE) : Nat := E.1.2 99 0
def aO : String := "java/lang/Object"
def Zv (E : gE) (U : State) : Prop := va_AO "java/lang/Object" U ∧ va_Dc U ∧ va_Mi "[Ljava/lang/Object;" (miE E) U ∧ (∀ C ∈ [RX0, RX1, RX2], va_Nw (.castable C "java/lang/Object") U) ∧ (∀ C ∈ ["java/lang/IllegalArgumentException", "java/lang/IllegalStateException", "java/lang/IndexOutOfBoundsException"], va_Nw (.castable C C) U) ∧
  (va_Nc "java/lang/IllegalStateException" "java/lang/IllegalArgumentException" U ∧ va_Nc "java/lang/IllegalArgumentException" "java/lang/IndexOutOfBoundsException" U ∧ va_Nc "java/lang/IllegalStateException" "java/lang/IndexOutOfBoundsException" U) ∧ (∀ q ∈ zTxt, ∃ sa, vk_R RX4 q.1 q.2 sa U) ∧ va_Nw (.methodLinkNest RX4 24 yX3_init RX4) U ∧ ∀ C ∈ ["java/lang/RuntimeException", "java/lang/Exception", "java/lang/Throwable"], va_Nw (.declares (Bundle.initS C)) U
def zD : String := "DEFAULTCAPACITY_EMPTY_ELEMENTDATA"
def Zh (E : gE) (A : Nat → Prop) (U : State) (H : Heap) : Prop := va_Z "java/util/ArrayList" "DEFAULTCAPACITY_EMPTY_ELEMENTDATA" "[Ljava/lang/Object;" (.ref E.2.2.2.2) A U H ∧ va_T (.object "java/lang/Object") E.2.2.2.2 0 (fun _ => .null) A U H ∧
  vx_Zq Bundle.tN "UNASSIGNED_STACK" Bundle.steD A U H ∧ vx_Zq Bundle.tN "SUPPRESSED_SENTINEL" Bundle.listD A U H
def Zx (E : gE) (A : Nat → Prop) (U : State) (H : Heap) : Prop := Zv E U ∧ Zh E A U H
theorem Zv.warm {E : gE} {s U : State} (hW : s.WarmedH U.vm) (h : Zv E s) : Zv E U := by
  obtain ⟨h1, h2, h3, h4, h5, ⟨h6, h7, h8⟩, h9, h10, h11⟩ := h
  refine ⟨va_AO.moved hW.alike h1, va_Dc.moved hW.alike h2, va_Mi.moved hW.alike h3, fun C hC => va_Nw.warmC hW (h4 C hC), fun C hC => va_Nw.warmC hW (h5 C hC), ⟨va_Nc.moved hW.alike h6, va_Nc.moved hW.alike h7, va_Nc.moved hW.alike h8⟩, fun q hq => ?_, va_Nw.warmM hW h10, fun C hC => va_Nw.warmD hW (h11 C hC)⟩
  obtain ⟨sa, h⟩ := h9 q hq
  exact ⟨sa, vk_R.warm hW h⟩
theorem Zh.moved {E : gE} {A : Nat → Prop} {u U : State} {H : Heap} (hvm : u.vm.Alike U.vm) (h : Zh E A u H) : Zh E A U H := ⟨va_Z.moved hvm h.1, va_T.moved hvm h.2.1, vx_Zq.moved hvm h.2.2.1, vx_Zq.moved hvm h.2.2.2⟩
theorem Zh.kept {E : gE} {A : Nat → Prop} {U : State} {H H1 : Heap} (h : Zh E A U H) (hq : ∀ a : Nat, a < H.size → ¬ A a → H1[a]? = H[a]?) : Zh E A U H1 := ⟨va_Z.kept h.1 hq, va_T.kept h.2.1 hq, vx_Zq.kept h.2.2.1 hq, vx_Zq.kept h.2.2.2 hq⟩
theorem Zh.narrow {E : gE} {A B : Nat → Prop} {U : State} {H : Heap} (h : Zh E A U H) (hAB : ∀ q, B q → A q) : Zh E B U H := ⟨va_Z.narrow h.1 hAB, va_T.narrow h.2.1 hAB, vx_Zq.narrow h.2.2.1 hAB, vx_Zq.narrow h.2.2.2 hAB⟩
theorem Zx.warm {E : gE} {A : Nat → Prop} {s U : State} {H : Heap} (hW : s.WarmedH U.vm) (h : Zx E A s H) : Zx E A U H := ⟨h.1.warm hW, h.2.moved hW.alike⟩
theorem Zx.now {E : gE} {A : Nat → Prop} {s : State} {H : Heap} {locs : List Loc} (h : Zx E A s s.heap) (hS : va_S A s.heap H locs) : Zx E A s H := ⟨h.1, h.2.kept hS.2.1⟩
theorem Zx.narrow {E : gE} {A B : Nat → Prop} {U : State} {H : Heap} (h : Zx E A U H) (hAB : ∀ q, B q → A q) : Zx E B U H := ⟨h.1, h.2.narrow hAB⟩
theorem Zx.txt {E : gE} {A : Nat → Prop} {U : State} {H : Heap} (h : Zx E A U H) {q : Nat × String} (hq : q ∈ zTxt) : ∃ sa, vk_R RX4 q.1 q.2 sa U := h.1.2.2.2.2.2.2.1 q hq
theorem Zx.nest {E : gE} {A : Nat → Prop} {U : State} {H : Heap} (h : Zx E A U H) : va_Nw (.methodLinkNest RX4 24 yX3_init RX4) U := h.1.2.2.2.2.2.2.2.1
theorem Zx.decl {E : gE} {A : Nat → Prop} {U : State} {H : Heap} (h : Zx E A U H) {C : String} (hC : C ∈ ["java/lang/RuntimeException", "java/lang/Exception", "java/lang/Throwable"]) : va_Nw (.declares (Bundle.initS C)) U := h.1.2.2.2.2.2.2.2.2 C hC
theorem Zx.castE {E : gE} {A : Nat → Prop} {U : State} {H : Heap} (h : Zx E A U H) {C : String} (hC : C ∈ ["java/lang/IllegalArgumentException", "java/lang/IllegalStateException", "java/lang/IndexOutOfBoundsException"]) : va_Nw (.castable C C) U := h.1.2.2.2.2.1 C hC
/-- what a method finds that asks for it -/
def Pz (E : gE) (A : Nat → Prop) (av : List Value) (P : Heap → Prop) : Array Value → State → Prop := va_Pc av (fun U => P U.heap ∧ kK E U ∧ Zx E A U U.heap)
theorem Pz.bl {E : gE} {A : Nat → Prop} {av : List Value} {P : Heap → Prop} : FrameBlind (Pz E A av P) := fun a U g mk h => ⟨h.1, h.2.1, kK.moved (u := U) (U := U.calling g mk a) (Vm.Alike.refl U.vm) h.2.2.1, Zx.warm (s := U) (U := U.calling g mk a) (State.WarmedH.refl U) h.2.2.2⟩
theorem Pz.preS {E : gE} {A A1 : Nat → Prop} {av : List Value} {P : Heap → Prop} {s : State} {H : Heap} {locs : List Loc} (hK : kK E s) (hZ : Zx E A s s.heap) (hS : va_S A s.heap H locs) (hN : ∀ q, A1 q → A q) (hP : P H) : PreS s H (Pz E A1 av P) av :=
  ⟨Pz.bl, fun U hU hW => ⟨rfl, by rw [hU]; exact hP, hK.moved hW.alike, by rw [hU]; exact Zx.warm hW ((hZ.now hS).narrow hN)⟩⟩
theorem Pz.preV {E : gE} {A A1 : Nat → Prop} {As : List Value} {P : Heap → Prop} {s : State} {H : Heap} {locs : List Loc} {C : String} {b : Addr} (hK : kK E s) (hZ : Zx E A s s.heap) (hS : va_S A s.heap H locs) (hN : ∀ q, A1 q → A q) (hP : P H) (hr : ∃ cellB : Cell, H[b]? = some cellB ∧ cellB.vm.isStatics = false ∧ s.vm.findClass C = some cellB.cls) : PreV s H C b (Pz E A1 (.ref b :: As) P) As :=
  ⟨Pz.bl, hr, fun U hU hW => ⟨rfl, by rw [hU]; exact hP, hK.moved hW.alike, by rw [hU]; exact Zx.warm hW ((hZ.now hS).narrow hN)⟩⟩
/-- a method that makes a row and answers it -/
def QR (Ph : Nat → Heap → Prop) (A : Nat → Prop) : Array Value → State → Outcome → State → Prop := fun _ s o t => ∃ q, o = .returned (some (.ref q)) ∧ Ph q t.heap ∧ va_F A s t
theorem mu_md {M : gM} {t : Nat} {e : va_E} : mu (md M t) t e = mu M t e := by
  funext u
  by_cases h : u = t
  · subst h; rw [mu_s, mu_s]
  · rw [mu_n h, mu_n h, md_n h]
/-- the same cells under other tags -/
theorem mP.re {E : gE} {A : Nat → Prop} {g g2 : Nat → Nat} {M M2 : gM} {H : Heap} (φ : Nat → Nat) (h : mP E A g M H) (h1 : ∀ t e, M2 t = some e → M (φ t) = some e ∧ g2 t = g (φ t)) (h2 : ∀ t u e f, M2 t = some e → M2 u = some f → φ t = φ u → t = u) : mP E A g2 M2 H :=
  ⟨fun t e ht => by rw [(h1 t e ht).2]; exact h.1 _ e (h1 t e ht).1, fun t u e f ht hu hg => h2 t u e f ht hu (h.2 _ _ e f (h1 t e ht).1 (h1 u f hu).1 (by rw [← (h1 t e ht).2, ← (h1 u f hu).2]; exact hg))⟩
section ZE
theorem z_entry {l : Launch} {E : gE} {A : Nat → Prop} {av : List Value} {P : Heap → Prop} {y : MethodName} {ws ws' : List Cond} {rm : Room} {Qc : Array Value → State → Outcome → State → Prop} {mc ms : Nat} {free : Addr → Prop} {cc : ByteArray} {maxL : Nat} {ret : Option FieldType}
    (hy : plainName y.cls = true) (hw : ws = Cond.code y cc maxL ret :: ws') (hn : (lg_sl av).length ≤ maxL)
    (body : ∀ (p : Program) (e : Env) (s : State) (m : MethodId) (args : Array Value) (below : List Frame) (meth : Method) (c : Code), p.tables.exec = Jvm.exec → c.code = cc → meth.sig.returnType = ret → c.maxLocals = maxL → (∀ w ∈ ws, w.before args s = true) → s.vm.findClass y.cls = some m.cls → meth.locks = false → meth.name = y.name →
      P s.heap → kK E s → Zx E A s s.heap → ∀ ls : Array Slot, lv_has ls maxL (lv_args 0 av) → W p l e rm s m args below meth c s.heap [] 0 0 (MQ below Qc args s mc ms free) (F0 m 0 ls [])) : Met l y ws rm (Pz E A av P) Qc mc ms free := by
  refine Met.ofW (cc := cc) (maxL := maxL) (ret := ret) hy hw ?_
  intro p e s m args below meth c s₁ B hml hv
  obtain ⟨rfl, hP, hK, hZ⟩ := hv
  have hl := lv_entry av (n := maxL) hn
  rw [lg_entry_eq]
  exact body p e s m av.toArray below meth c B.exec B.bytes B.returns hml (atoms_spec (ws := ws) B.pre) (findClass_of_methodNamed B.named) B.notSynchronized (name_of_methodNamed B.named B.method).1 hP hK hZ _ hl
end ZE
section ZR
variable {p : Program} {l : Launch} {e : Env} {R : Room} {s : State} {m : MethodId} {args : Array Value} {below : List Frame} {meth : Method} {c : Code} {H : Heap} {locs : List Loc} {cells slots : Nat} {Q : State → Prop}
variable {cc : ByteArray} {pc : Nat} {ls : Array Slot} {rest : List Value} {E : gE} {A : Nat → Prop} {g : Nat → Nat} {M : gM} {H0 : Heap} {t : Nat}
theorem m_getU (hexec : p.tables.exec = Jvm.exec) (hb : c.code = cc) {own ref C : String} {T : u_T} {N ci index : Nat} {Ts : List Cond} (hts : ∀ w ∈ Ts, w.before args s = true) (hin : ∀ w ∈ u_ws C T N, w ∈ Ts) (hown : s.vm.findClass own = some m.cls) (hK : kK E s) (hM : mP E A g M H) {fs : List Value} (ht : M t = some (.inr (ci, fs))) (hc : vwCl[ci]? = some (C, T, N)) (k : Nat) (hk : k < N) (hlink : Cond.fieldLink own index ref (T k).2.1 (T k).2.2.1 ∈ Ts) (hsame : ∀ x, s.fieldFound? (T k).1 (T k).2.1 (T k).2.2.1 = some x → s.fieldFound? ref (T k).2.1 (T k).2.2.1 = some x) {v : Value} (hv : fs[k]? = some v) (hdg : decode cc pc = .ok (.getfield index, 3))
    (kk : W p l e R s m args below meth c H locs cells slots Q (F0 m (pc + 3) ls (v :: rest))) : W p l e R s m args below meth c H locs cells slots Q (F0 m pc ls (.ref (g t) :: rest)) := by
  have hP : va_P E.1 vwCl [(g t, .inr (ci, fs))] H := by
    intro k q hk
    cases k with
    | zero => simp at hk; subst hk; exact (hM.1 t _ ht).1
    | succ k => simp at hk
  exact va_get (D := E.1) (ci := ci) (v := v) hexec hb hts hin hown hK hP 0 rfl hc k hk (hts _ hlink) hsame hv hdg kk
theorem m_putU (hexec : p.tables.exec = Jvm.exec) (hb : c.code = cc) {own ref C : String} {T : u_T} {N ci index : Nat} {Ts : List Cond} (hts : ∀ w ∈ Ts, w.before args s = true) (hin : ∀ w ∈ u_ws C T N, w ∈ Ts) (ty0 : Nat → FieldType) (hty : ∀ k, k < N → parseFieldDescriptor (T k).2.2.1 = some (ty0 k)) (hnm : ∀ a, a < N → ∀ b, b < N → a ≠ b → (T a).2.1 ≠ (T b).2.1) (hown : s.vm.findClass own = some m.cls) (hK : kK E s) (hM : mP E A g M H) (hS0 : va_S A H0 H locs) {fs : List Value} (ht : M t = some (.inr (ci, fs))) (hc : vwCl[ci]? = some (C, T, N)) (k : Nat) (hk : k < N) (hlink : Cond.fieldLink own index ref (T k).2.1 (T k).2.2.1 ∈ Ts) (hsame : ∀ x, s.fieldFound? (T k).1 (T k).2.1 (T k).2.2.1 = some x → s.fieldFound? ref (T k).2.1 (T k).2.2.1 = some x) (hfin : (T k).2.2.2 = false) {ty : FieldType} {v : Value} (hd : parseFieldDescriptor (T k).2.2.1 = some ty) (hn : narrow ty v = v) (hfit : fits ty v = true) (hl : k < fs.length)
    (hdg : decode cc pc = .ok (.putfield index, 3)) (kk : ∀ (H1 : Heap) (locs1 : List Loc), mP E A g (mu M t (.inr (ci, fs.set k v))) H1 → H1.size = H.size → va_S A H0 H1 locs1 → W p l e R s m args below meth c H1 locs1 cells slots Q (F0 m (pc + 3) ls rest)) : W p l e R s m args below meth c H locs cells slots Q (F0 m pc ls (v :: .ref (g t) :: rest)) := by
  have hap := va_apart (D := E.1) (cl := vwCl) (ci := ci) (own := own) hts hin ty0 hty hnm hK hc
  obtain ⟨r, h1, cell, q1, q2, q3, q4⟩ := (hM.1 t _ ht).1
  have hr : r = (C, T, N) := Option.some.inj (h1.symm.trans hc)
  subst hr
  obtain ⟨hS, hfc, kC, hkC, hkind⟩ := hK.1 ci _ hc
  obtain ⟨cf, kf, fi, f, hi, hsl⟩ := hS k hk
  have hlay := hts _ (hin _ (u_in_lay hk))
  unfold u_lay at hlay
  rw [if_neg (by rw [hfin]; decide)] at hlay
  have hst := (u_facts hfc hkC (u_lays hts hin hk) hi).1
  have h6 := u_store hfc hkC hkind hlay hi hd hn hfit
  refine W.putK hexec hb (f := f) ⟨hown, hts _ hlink, ⟨_, _, _, hsame _ hi⟩, hst⟩ (by rw [q2]; exact h6) q1 q3 (by rw [hsl]; exact k2_hasslot (q4 k hk)) rfl rfl hdg fun H' e1 e2 e3 => ?_
  rw [hsl] at e1 ⊢
  exact kk H' _ (hM.set ht ⟨_, hc, t_OB.to (V := updV (vp_V fs) k v) ⟨_, e1, q2, q3, t_set q4 hap hk v⟩ (fun j _ => vp_updV_set hl v j)⟩ e3) e2 (hS0.put e2 e3 (hM.1 t _ ht).2)
theorem m_astO {tv ci n : Nat} {vs : List Value} {r : vw_C} {f : Nat → Option Nat} (hexec : p.tables.exec = Jvm.exec) (hb : c.code = cc) (hK : kK E s) (hM : mP E A g M H) (hS : va_S A H0 H locs) (ht : M t = some (.inl (E.2.2.2.1, n, .inr (.inr (.inr (.inr f)))))) (hv : M tv = some (.inr (ci, vs))) (hc : vwCl[ci]? = some r) (hca : va_Nw (.castable r.1 "java/lang/Object") s) {i : Int32} (hin : vp_in i n) (hdg : decode cc pc = .ok (.aastore, 1))
    (kk : ∀ (H1 : Heap) (locs1 : List Loc), mP E A g (mu M t (.inl (E.2.2.2.1, n, .inr (.inr (.inr (.inr (va_up f i.toNatClampNeg (some (g tv)))))))) ) H1 → H1.size = H.size → va_S A H0 H1 locs1 → W p l e R s m args below meth c H1 locs1 cells slots Q (F0 m (pc + 1) ls rest)) : W p l e R s m args below meth c H locs cells slots Q (F0 m pc ls (.ref (g tv) :: .int i :: .ref (g t) :: rest)) := by
  have hlt : i.toNatClampNeg < n := Nat.not_le.mp fun q => hin (Or.inr q)
  have h0 : ¬ i < 0 := fun q => hin (Or.inl q)
  obtain ⟨cellV, g1, g3, g2⟩ := m_recv hK hM hv hc
  obtain ⟨kA, comp, k1, k2, k3, -⟩ := (hK.2 2 _ rfl).2
  obtain ⟨kE, hkE, -⟩ := Vm.findClass_spec k3
  obtain ⟨kC, hkC, -⟩ := Vm.findClass_spec g2
  have hP0 : H[g t]? = some (vp_cell E.2.2.2.1 (n, .inr (.inr (.inr (.inr f))))) := (hM.1 t _ ht).1
  refine W.aast hexec hb hP0 (fun q h => by cases h) (fun h => by cases h) k1 k2 rfl hkE ⟨h0, by show _ < (arrV _ _ _).slots.size; rw [arrV_size]; exact hlt⟩ g1 (fun q h => by rw [h] at g3; cases g3) hkC (vb_asgC hca _ _ k3 g2) rfl rfl hdg fun H1 e z oq => ?_
  refine kk H1 _ (hM.set ht ?_ oq) z (hS.put z oq (hM.1 t _ ht).2)
  show H1[g t]? = some (vp_cell _ _)
  rw [e]
  rw [vp_cell_q, vp_cell_q, arrV_store]
  congr 2
  funext q
  by_cases hq : q = i.toNatClampNeg
  · subst hq
    simp [updV, va_up, va_rf]
  · simp [updV, va_up, hq]
theorem m_newq {Ts : List Cond} (hexec : p.tables.exec = Jvm.exec) (hb : c.code = cc) {own : String} {index : Nat} (hts : ∀ w ∈ Ts, w.before args s = true) (hown : s.vm.findClass own = some m.cls) (hclink : Cond.classLink own index "java/lang/Object" ∈ Ts) (hover : va_AO "java/lang/Object" s) (hK : kK E s) (hM : mP E A g M H) (hS : va_S A H0 H locs) (hA : ∀ q, H.size ≤ q → A q) (t : Nat) (ht : M t = none)
    {n : Int32} (N : Nat) (hn : ¬ n < 0) (hN : n.toNatClampNeg = N) (hbytes : N * 4 ≤ 536870912) (hcells : cells + 1 ≤ R.cells) (hslots : slots + N ≤ R.slots) (hdg : decode cc pc = .ok (.anewarray index, 3))
    (kk : ∀ (H1 : Heap), mP E A (gu1 g t H.size) (mu M t (.inl (E.2.2.2.1, N, .inr (.inr (.inr (.inr (fun _ => none))))))) H1 → H1.size = H.size + 1 → (∀ q, q < H.size → H1[q]? = H[q]?) → va_S A H0 H1 locs →
      W p l e R s m args below meth c H1 locs (cells + 1) (slots + N) Q (F0 m (pc + 3) ls (.ref H.size :: rest))) : W p l e R s m args below meth c H locs cells slots Q (F0 m pc ls (.int n :: rest)) := by
  subst hN
  refine W.anew hexec hb hown (hts _ hclink) (va_AO.use hover) rfl hdg rfl hn hbytes hcells hslots fun cA kA comp f1 f2 f3 f4 => ?_
  have hcA : cA = E.2.2.2.1 := by
    obtain ⟨kA9, comp9, -, -, -, h4⟩ := (hK.2 2 _ rfl).2
    exact Option.some.inj (f1.symm.trans h4)
  subst hcA
  generalize hH1 : H.push ({ cls := E.2.2.2.1, slots := Array.replicate n.toNatClampNeg .null, vm := .none } : Cell) = H1
  have z1 : H1.size = H.size + 1 := by rw [← hH1, Array.size_push]
  have e1 : H1[H.size]? = some (arrV E.2.2.2.1 n.toNatClampNeg (fun _ => .null)) := by rw [← hH1, Array.getElem?_push_size, ← arrV_new]
  have o1 : ∀ q : Nat, q < H.size → H1[q]? = H[q]? := fun q hq => by rw [← hH1, Array.getElem?_push, if_neg (Nat.ne_of_lt hq)]
  exact kk H1 (hM.push ht (show H1[H.size]? = some (vp_cell _ _) by rw [vp_cell_q]; exact e1) (hA _ (Nat.le_refl _)) o1) z1 o1 ⟨Nat.le_trans hS.1 (by omega), fun x h1 h2 => (o1 x (Nat.lt_of_lt_of_le h1 hS.1)).trans (hS.2.1 x h1 h2), hS.2.2⟩
theorem m_newZ {own C : String} {T : u_T} {N ci index : Nat} {Ts : List Cond} (hexec : p.tables.exec = Jvm.exec) (hb : c.code = cc) (hts : ∀ w ∈ Ts, w.before args s = true) (hin : ∀ w ∈ u_ws C T N, w ∈ Ts) (ty : Nat → FieldType) (hty : ∀ k, k < N → parseFieldDescriptor (T k).2.2.1 = some (ty k)) (hown : s.vm.findClass own = some m.cls) (hcl : Cond.classLink own index C ∈ Ts) (hinst : Cond.instantiable C N ∈ Ts) (hini : Cond.initialized C ∈ Ts) (hK : kK E s) (hM : mP E A g M H) (hS : va_S A H0 H locs) (hA : ∀ q, H.size ≤ q → A q) (t : Nat) (ht : M t = none) (hc : vwCl[ci]? = some (C, T, N)) {fs : List Value} (hfs : ∀ j, j < N → defaultValue (ty j) = vp_V fs j)
    (hcells : cells + 1 ≤ R.cells) (hslots : slots + N ≤ R.slots) (hdg : decode cc pc = .ok (.new index, 3))
    (kk : ∀ (H1 : Heap), mP E A (gu1 g t H.size) (mu M t (.inr (ci, fs))) H1 → H1.size = H.size + 1 → (∀ q, q < H.size → H1[q]? = H[q]?) → va_S A H0 H1 locs →
      W p l e R s m args below meth c H1 locs (cells + 1) (slots + N) Q (F0 m (pc + 3) ls (.ref H.size :: rest))) : W p l e R s m args below meth c H locs cells slots Q (F0 m pc ls rest) := by
  have hKn := hK.1 ci _ hc
  refine W.newcK hexec hb hown (hts _ hcl) (hts _ hinst) (hts _ hini) rfl hdg hcells hslots hKn.2.1 rfl fun H1 kC hkC e1 z1 o1 => ?_
  exact kk H1 (hM.push ht ⟨_, hc, (u_born ty hts hin hKn hkC e1 hty).to hfs⟩ (hA _ (Nat.le_refl _)) o1) z1 o1 ⟨Nat.le_trans hS.1 (by omega), fun x h1 h2 => (o1 x (Nat.lt_of_lt_of_le h1 hS.1)).trans (hS.2.1 x h1 h2), hS.2.2⟩
theorem m_copyq {Ts : List Cond} (hexec : p.tables.exec = Jvm.exec) (hb : c.code = cc) (hml : c.maxLocals = ls.size) {own : String} {index : Nat} (hown : s.vm.findClass own = some m.cls) (hts : ∀ w ∈ Ts, w.before args s = true) (hlink : Cond.methodLink own index arraycopyName ∈ Ts) (hnat : Cond.native arraycopyName ∈ Ts) (hstat : Cond.static arraycopyName ∈ Ts) (hini : Cond.initialized "java/lang/System" ∈ Ts)
    (hK : kK E s) (hM : mP E A g M H) (hS : va_S A H0 H locs) {t0 t1 n0 n1 ci : Nat} {f f1 : Nat → Option Nat} {r : vw_C} (ha0 : M t0 = some (.inl (E.2.2.2.1, n0, .inr (.inr (.inr (.inr f)))))) (ha1 : M t1 = some (.inl (E.2.2.2.1, n1, .inr (.inr (.inr (.inr f1))))))
    (hc : vwCl[ci]? = some r) (hca : va_Nw (.castable r.1 "java/lang/Object") s) {sp dp n : Int32} (h1 : ¬ sp < 0) (h2 : ¬ dp < 0) (h3 : ¬ n < 0) (h4 : sp.toNatClampNeg + n.toNatClampNeg ≤ n0) (h5 : dp.toNatClampNeg + n.toNatClampNeg ≤ n1) (hel : ∀ i : Nat, i < n.toNatClampNeg → ∀ y : Nat, f (sp.toNatClampNeg + i) = some y → ∃ (tv : Nat) (vs : List Value), M tv = some (.inr (ci, vs)) ∧ y = g tv)
    (hframes : 1 ≤ R.frames) (hlocals : (rest.map fun v => v.category).sum + (nativeFrameWords "java/lang/System" "arraycopy" 5 + 11) ≤ R.locals) (hdg : decode cc pc = .ok (.invokestatic index, 3))
    (kk : ∀ (H1 : Heap) (locs1 : List Loc), mP E A g (mu M t1 (.inl (E.2.2.2.1, n1, .inr (.inr (.inr (.inr (va_cpy f f1 sp.toNatClampNeg dp.toNatClampNeg n.toNatClampNeg))))))) H1 → H1.size = H.size → va_S A H0 H1 locs1 → W p l e R s m args below meth c H1 locs1 cells slots Q (F0 m (pc + 3) ls rest)) : W p l e R s m args below meth c H locs cells slots Q (F0 m pc ls (.int n :: .int dp :: .ref (g t1) :: .int sp :: .ref (g t0) :: rest)) := by
  have nn : ∀ z : Int32, ¬ z < 0 → z.toInt = (z.toNatClampNeg : Int) := by
    intro z hz
    have hz0 : (0 : Int) ≤ z.toInt := by
      have := Int32.not_lt.mp hz
      simpa using Int32.le_iff_toInt_le.mp this
    show z.toInt = ((z.toInt.toNat : Nat) : Int)
    omega
  intro T hT X
  have hc0 : H[g t0]? = some (vp_cell E.2.2.2.1 (n0, .inr (.inr (.inr (.inr f))))) := (hM.1 t0 _ ha0).1
  have hc1 : H[g t1]? = some (vp_cell E.2.2.2.1 (n1, .inr (.inr (.inr (.inr f1))))) := (hM.1 t1 _ ha1).1
  obtain ⟨-, k0, hk0, cm0, hkk0⟩ := (hK.2 2 _ rfl).1 n0 (fun j => va_rf (f j))
  obtain ⟨-, k1, hk1, cm1, hkk1⟩ := (hK.2 2 _ rfl).1 n1 (fun j => va_rf (f1 j))
  obtain ⟨vm', X', step⟩ := X.arraycopy hexec hown (hts _ hlink) (hts _ hnat) (hts _ hstat) (hts _ hini) (src := g t0) (dst := g t1) (cs := vp_cell E.2.2.2.1 (n0, .inr (.inr (.inr (.inr f))))) (cd := vp_cell E.2.2.2.1 (n1, .inr (.inr (.inr (.inr f1))))) (srcPos := sp) (destPos := dp) (n := n) (by rw [hT]; exact hc0) (by rw [hT]; exact hc1)
    (fun _ h => by cases h) (fun _ h => by cases h) (fun h => by cases h) (fun h => by cases h) hk0 hk1 hkk0 hkk1 rfl h1 h2 h3
    (by rw [nn sp h1, nn n h3]; show ¬ _ > ((arrV E.2.2.2.1 n0 (fun j => va_rf (f j))).slots.size : Int); rw [arrV_size]; omega)
    (by rw [nn dp h2, nn n h3]; show ¬ _ > ((arrV E.2.2.2.1 n1 (fun j => va_rf (f1 j))).slots.size : Int); rw [arrV_size]; omega)
    (fun vm₁ hal i hi => by
      have e : (vp_cell E.2.2.2.1 (n0, .inr (.inr (.inr (.inr f))))).slots.getD (sp.toNatClampNeg + i) .null = va_rf (f (sp.toNatClampNeg + i)) := by
        show (arrV E.2.2.2.1 n0 (fun j => va_rf (f j))).slots.getD _ _ = _
        rw [Array.getD_eq_getD_getElem?, arrV_read _ _ (by omega)]
        rfl
      rw [e]
      cases hy : f (sp.toNatClampNeg + i) with
      | none => exact ⟨rfl, trivial⟩
      | some y =>
        obtain ⟨tv, vs, hv, rfl⟩ := hel i hi y hy
        obtain ⟨cellV, g1, g2, g3⟩ := m_recv hK hM hv hc
        obtain ⟨kA, comp, r1, r2, r3, -⟩ := (hK.2 2 _ rfl).2
        cases hk1.symm.trans r1
        cases hkk1.symm.trans r2
        obtain ⟨kC, hkC, -⟩ := Vm.findClass_spec g3
        obtain ⟨kE, hkE, -⟩ := Vm.findClass_spec r3
        obtain ⟨kC', hkC', -⟩ := hal.2.2 _ _ hkC
        obtain ⟨kE', hkE', -⟩ := hal.2.2 _ _ hkE
        refine ⟨rfl, cellV, (show T.heap[g tv]? = some cellV by rw [hT]; exact g1), (fun q h => by rw [h] at g2; cases g2), ⟨kC', hkC'⟩, ?_, ?_⟩
        · exact ⟨kE', hkE'⟩
        · show vm₁.assignable _ _ = true
          rw [hal.assignable]
          exact vb_asgC hca _ _ r3 g3)
    (g := F0 m pc ls (.int n :: .int dp :: .ref (g t1) :: .int sp :: .ref (g t0) :: rest)) rfl (by rw [hml]) (rest := rest) rfl (by rw [hb]; exact hdg) hframes (by show 2 * 0 + _ + _ ≤ _; omega)
  have e1 : copied (vp_cell E.2.2.2.1 (n0, .inr (.inr (.inr (.inr f))))) (vp_cell E.2.2.2.1 (n1, .inr (.inr (.inr (.inr f1))))) sp dp n = vp_cell E.2.2.2.1 (n1, .inr (.inr (.inr (.inr (va_cpy f f1 sp.toNatClampNeg dp.toNatClampNeg n.toNatClampNeg))))) := by
    rw [vp_cell_q, vp_cell_q, vp_cell_q]
    exact va_copied (fun z => va_rf z) E.2.2.2.1 E.2.2.2.1 f f1 h4
  rw [e1] at X' step
  have hl : g t1 < H.size := (Array.getElem?_eq_some_iff.mp hc1).1
  generalize hD : vp_cell E.2.2.2.1 (n1, .inr (.inr (.inr (.inr (va_cpy f f1 sp.toNatClampNeg dp.toNatClampNeg n.toNatClampNeg))))) = D9 at X' step
  have hheap : ((T.setVm vm').setCell (g t1) D9).heap = H.setIfInBounds (g t1) D9 := by rw [← hT]; rfl
  have oq : ∀ q : Nat, q ≠ g t1 → (H.setIfInBounds (g t1) D9)[q]? = H[q]? := fun q hq => by simp [Array.getElem?_setIfInBounds, Ne.symm hq]
  obtain ⟨t, a1, b1⟩ := kk _ _ (hM.set ha1 (show (H.setIfInBounds (g t1) _)[g t1]? = some _ by rw [hD]; simp [Array.getElem?_setIfInBounds, hl]) oq) (by simp) ⟨by simp; exact hS.1, fun q g1 g2 => by
      rw [oq q (fun e => g2 (by rw [e]; exact (hM.1 t1 _ ha1).2))]
      exact hS.2.1 q g1 g2, fun q hq => by
      rcases List.mem_append.mp hq with h | h
      · exact hS.2.2 q h
      · obtain ⟨z, -, hz⟩ := List.mem_map.mp h
        rw [← hz]
        exact (hM.1 t1 _ ha1).2⟩ _ hheap X'
  exact ⟨t, step t a1, b1⟩
end ZR
section ZC
variable {p : Program} {l : Launch} {e : Env} {R : Room} {s : State} {m : MethodId} {args : Array Value} {below : List Frame} {meth : Method} {c : Code} {H : Heap} {locs : List Loc} {cells slots : Nat} {Q : State → Prop}
variable {cc bytes : ByteArray} {pc : Nat} {ls : Array Slot} {E : gE} {A : Nat → Prop} {g : Nat → Nat} {M : gM} {t : Nat} {Ts ws ws' : List Cond} {nL maxL index mc ms : Nat} {own : String} {y : MethodName} {ret : Option FieldType} {rm : Room} {P Ph : Heap → Prop} {PR : Nat → Heap → Prop}
theorem m_rrun {A1 : Nat → Prop} {free : Addr → Prop} {a : Array Value} {st0 rest : List Value} {H0 : Heap} (hr : va_Run p l e R s m args below meth c H locs cells slots mc ms (F0 m pc ls st0) rest (QR PR A1 a) free) (hS : va_S A H0 H locs) (hA : ∀ q, q < H.size → A1 q → A q) (hf : ∀ q, free q → A q)
    (kk : ∀ (q9 : Nat) (H1 : Heap) (locs1 : List Loc), PR q9 H1 → H.size ≤ H1.size → (∀ q : Nat, q < H.size → ¬ A1 q → H1[q]? = H[q]?) → va_S A H0 H1 locs1 → W p l e R s m args below meth c H1 locs1 (cells + mc) (slots + ms) Q (F0 m (pc + 3) ls (.ref q9 :: rest))) : W p l e R s m args below meth c H locs cells slots Q (F0 m pc ls st0) := by
  intro T hT X
  obtain ⟨v, st₀, t, T', L, h0, X', hL, e1, e2, ⟨q9, hv, hp, hz, hk⟩, st⟩ := hr T hT X
  cases hv
  rw [h0] at hz hk
  obtain ⟨t2, a1, b1⟩ := kk q9 T'.heap (locs ++ L) (by rw [e1]; exact hp) (by rw [e1]; exact hz) (fun q h1 h2 => by rw [e1]; exact hk q h1 h2)
    ⟨Nat.le_trans hS.1 (by rw [e1]; exact hz), fun q h1 h2 => by rw [e1, hk q (Nat.lt_of_lt_of_le h1 hS.1) (fun z => h2 (hA q (Nat.lt_of_lt_of_le h1 hS.1) z))]; exact hS.2.1 q h1 h2, fun q hq => by
      rcases List.mem_append.mp hq with h | h
      · exact hS.2.2 q h
      · exact hf _ (hL q h)⟩ T' rfl X'
  exact ⟨t2, st t2 a1, b1⟩
theorem m_zV (n : Nat) {v0 : Option Value} {A1 : Nat → Prop} {free : Addr → Prop} {b : Addr} {C : String} {T : u_T} {N : Nat} {fs : List Value} {ci : Nat} (As rest : List Value) (hx : p.tables.exec = Jvm.exec) (hb : c.code = cc) (hml : c.maxLocals = nL) (hown : s.vm.findClass own = some m.cls) (hts : ∀ w ∈ Ts, w.before args s = true) (hK : kK E s) (hM : Met l y ws rm (Pz E A1 (.ref b :: As) P) (QW v0 Ph A1) mc ms free) (hG : GoodIn Ts (wsV own index C y ws)) (hw : ws = Cond.code y bytes maxL ret :: ws') (hrc : rm.cells = mc) (hrs : rm.slots = ms)
    (hd : y.cls = C ∧ y.cls ≠ "java/lang/invoke/MethodHandle" ∧ y.cls ≠ "java/lang/invoke/VarHandle" ∧ (parseMethodDescriptor y.desc).map (fun d => d.parameters.length) = some n) (hn : As.length = n) (hR : rm.frames + 1 ≤ R.frames ∧ 8 + (maxL + 11) + rm.locals ≤ R.locals) (hMm : mP E A g M H) (ht : M t = some (.inr (ci, fs))) (hc : vwCl[ci]? = some (C, T, N)) (hbt : g t = b) (hP : P H) (hsz : ls.size = nL) (hcat : (rest.map fun v => v.category).sum ≤ 8) (hf : cells + mc ≤ R.cells ∧ slots + ms ≤ R.slots) {st0 : List Value} (hst : st0 = As.reverse ++ .ref b :: rest) (hdg : decode cc pc = .ok (.invokevirtual index, 3)) (hZ : Zx E A s s.heap) (hN : ∀ q, A1 q → A q) (hS : va_S A s.heap H locs) (hA : ∀ q, q < H.size → A1 q → A q) (hfr : ∀ q, free q → A q)
    (kk : ∀ (H1 : Heap) (locs1 : List Loc), Ph H1 → H.size ≤ H1.size → (∀ q : Nat, q < H.size → ¬ A1 q → H1[q]? = H[q]?) → va_S A s.heap H1 locs1 → W p l e R s m args below meth c H1 locs1 (cells + mc) (slots + ms) Q (F0 m (pc + 3) ls (v0.toList ++ rest))) : W p l e R s m args below meth c H locs cells slots Q (F0 m pc ls st0) := by
  subst hst
  have hr := m_recv hK hMm ht hc
  rw [hbt] at hr
  exact m_wrun (va_runV (As := As) (rest := rest) ⟨hx, hb, hml, hown, hts⟩ hM (cwV n hts hG hw hrc hrs hd hR) (Pz.preV hK hZ hS hN hP hr) rfl hn hsz rfl (lv_room hcat) hdg hf) hS hA hfr kk
theorem m_rV (n : Nat) {A1 : Nat → Prop} {free : Addr → Prop} {b : Addr} {C : String} {T : u_T} {N : Nat} {fs : List Value} {ci : Nat} (As rest : List Value) (hx : p.tables.exec = Jvm.exec) (hb : c.code = cc) (hml : c.maxLocals = nL) (hown : s.vm.findClass own = some m.cls) (hts : ∀ w ∈ Ts, w.before args s = true) (hK : kK E s) (hM : Met l y ws rm (Pz E A1 (.ref b :: As) P) (QR PR A1) mc ms free) (hG : GoodIn Ts (wsV own index C y ws)) (hw : ws = Cond.code y bytes maxL ret :: ws') (hrc : rm.cells = mc) (hrs : rm.slots = ms)
    (hd : y.cls = C ∧ y.cls ≠ "java/lang/invoke/MethodHandle" ∧ y.cls ≠ "java/lang/invoke/VarHandle" ∧ (parseMethodDescriptor y.desc).map (fun d => d.parameters.length) = some n) (hn : As.length = n) (hR : rm.frames + 1 ≤ R.frames ∧ 8 + (maxL + 11) + rm.locals ≤ R.locals) (hMm : mP E A g M H) (ht : M t = some (.inr (ci, fs))) (hc : vwCl[ci]? = some (C, T, N)) (hbt : g t = b) (hP : P H) (hsz : ls.size = nL) (hcat : (rest.map fun v => v.category).sum ≤ 8) (hf : cells + mc ≤ R.cells ∧ slots + ms ≤ R.slots) {st0 : List Value} (hst : st0 = As.reverse ++ .ref b :: rest) (hdg : decode cc pc = .ok (.invokevirtual index, 3)) (hZ : Zx E A s s.heap) (hN : ∀ q, A1 q → A q) (hS : va_S A s.heap H locs) (hA : ∀ q, q < H.size → A1 q → A q) (hfr : ∀ q, free q → A q)
    (kk : ∀ (q9 : Nat) (H1 : Heap) (locs1 : List Loc), PR q9 H1 → H.size ≤ H1.size → (∀ q : Nat, q < H.size → ¬ A1 q → H1[q]? = H[q]?) → va_S A s.heap H1 locs1 → W p l e R s m args below meth c H1 locs1 (cells + mc) (slots + ms) Q (F0 m (pc + 3) ls (.ref q9 :: rest))) : W p l e R s m args below meth c H locs cells slots Q (F0 m pc ls st0) := by
  subst hst
  have hr := m_recv hK hMm ht hc
  rw [hbt] at hr
  exact m_rrun (va_runV (As := As) (rest := rest) ⟨hx, hb, hml, hown, hts⟩ hM (cwV n hts hG hw hrc hrs hd hR) (Pz.preV hK hZ hS hN hP hr) rfl hn hsz rfl (lv_room hcat) hdg hf) hS hA hfr kk
theorem m_zS (n : Nat) {v0 : Option Value} {A1 : Nat → Prop} {free : Addr → Prop} (As rest : List Value) (hx : p.tables.exec = Jvm.exec) (hb : c.code = cc) (hml : c.maxLocals = nL) (hown : s.vm.findClass own = some m.cls) (hts : ∀ w ∈ Ts, w.before args s = true) (hK : kK E s) (hM : Met l y ws rm (Pz E A1 As P) (QW v0 Ph A1) mc ms free) (hG : GoodIn Ts (va_wsS own index y ws)) (hw : ws = Cond.code y bytes maxL ret :: ws') (hrc : rm.cells = mc) (hrs : rm.slots = ms)
    (hd : y.cls ≠ "java/lang/invoke/MethodHandle" ∧ y.cls ≠ "java/lang/invoke/VarHandle" ∧ (parseMethodDescriptor y.desc).map (fun d => d.parameters.length) = some n) (hn : As.length = n) (hR : rm.frames + 1 ≤ R.frames ∧ 8 + (maxL + 11) + rm.locals ≤ R.locals) (hP : P H) (hsz : ls.size = nL) (hcat : (rest.map fun v => v.category).sum ≤ 8) (hf : cells + mc ≤ R.cells ∧ slots + ms ≤ R.slots) {st0 : List Value} (hst : st0 = As.reverse ++ rest) (hdg : decode cc pc = .ok (.invokestatic index, 3)) (hZ : Zx E A s s.heap) (hN : ∀ q, A1 q → A q) (hS : va_S A s.heap H locs) (hA : ∀ q, q < H.size → A1 q → A q) (hfr : ∀ q, free q → A q)
    (kk : ∀ (H1 : Heap) (locs1 : List Loc), Ph H1 → H.size ≤ H1.size → (∀ q : Nat, q < H.size → ¬ A1 q → H1[q]? = H[q]?) → va_S A s.heap H1 locs1 → W p l e R s m args below meth c H1 locs1 (cells + mc) (slots + ms) Q (F0 m (pc + 3) ls (v0.toList ++ rest))) : W p l e R s m args below meth c H locs cells slots Q (F0 m pc ls st0) := by
  subst hst
  exact m_wrun (va_runS (As := As) (rest := rest) ⟨hx, hb, hml, hown, hts⟩ hM (va_cwS n hts hG hw hrc hrs hd hR) (Pz.preS hK hZ hS hN hP) rfl hn hsz rfl (lv_room hcat) hdg hf) hS hA hfr kk
theorem m_rS (n : Nat) {A1 : Nat → Prop} {free : Addr → Prop} (As rest : List Value) (hx : p.tables.exec = Jvm.exec) (hb : c.code = cc) (hml : c.maxLocals = nL) (hown : s.vm.findClass own = some m.cls) (hts : ∀ w ∈ Ts, w.before args s = true) (hK : kK E s) (hM : Met l y ws rm (Pz E A1 As P) (QR PR A1) mc ms free) (hG : GoodIn Ts (va_wsS own index y ws)) (hw : ws = Cond.code y bytes maxL ret :: ws') (hrc : rm.cells = mc) (hrs : rm.slots = ms)
    (hd : y.cls ≠ "java/lang/invoke/MethodHandle" ∧ y.cls ≠ "java/lang/invoke/VarHandle" ∧ (parseMethodDescriptor y.desc).map (fun d => d.parameters.length) = some n) (hn : As.length = n) (hR : rm.frames + 1 ≤ R.frames ∧ 8 + (maxL + 11) + rm.locals ≤ R.locals) (hP : P H) (hsz : ls.size = nL) (hcat : (rest.map fun v => v.category).sum ≤ 8) (hf : cells + mc ≤ R.cells ∧ slots + ms ≤ R.slots) {st0 : List Value} (hst : st0 = As.reverse ++ rest) (hdg : decode cc pc = .ok (.invokestatic index, 3)) (hZ : Zx E A s s.heap) (hN : ∀ q, A1 q → A q) (hS : va_S A s.heap H locs) (hA : ∀ q, q < H.size → A1 q → A q) (hfr : ∀ q, free q → A q)
    (kk : ∀ (q9 : Nat) (H1 : Heap) (locs1 : List Loc), PR q9 H1 → H.size ≤ H1.size → (∀ q : Nat, q < H.size → ¬ A1 q → H1[q]? = H[q]?) → va_S A s.heap H1 locs1 → W p l e R s m args below meth c H1 locs1 (cells + mc) (slots + ms) Q (F0 m (pc + 3) ls (.ref q9 :: rest))) : W p l e R s m args below meth c H locs cells slots Q (F0 m pc ls st0) := by
  subst hst
  exact m_rrun (va_runS (As := As) (rest := rest) ⟨hx, hb, hml, hown, hts⟩ hM (va_cwS n hts hG hw hrc hrs hd hR) (Pz.preS hK hZ hS hN hP) rfl hn hsz rfl (lv_room hcat) hdg hf) hS hA hfr kk
theorem m_zI (n : Nat) {v0 : Option Value} {A1 : Nat → Prop} {free : Addr → Prop} {b : Addr} (As rest : List Value) (hx : p.tables.exec = Jvm.exec) (hb : c.code = cc) (hml : c.maxLocals = nL) (hown : s.vm.findClass own = some m.cls) (hts : ∀ w ∈ Ts, w.before args s = true) (hK : kK E s) (hM : Met l y ws rm (Pz E A1 (.ref b :: As) P) (QW v0 Ph A1) mc ms free) (hG : GoodIn Ts ws) (hw : ws = Cond.code y bytes maxL none :: ws') (hrc : rm.cells = mc) (hrs : rm.slots = ms) (hini : Cond.initialized y.cls ∈ Ts) (hlk : Cond.methodLink own index y ∈ Ts) (hins : Cond.instanceMethod y ∈ Ts) (hy1 : y.name = "<init>")
    (hd : y.cls ≠ "java/lang/invoke/MethodHandle" ∧ y.cls ≠ "java/lang/invoke/VarHandle" ∧ (parseMethodDescriptor y.desc).map (fun d => d.parameters.length) = some n) (hn : As.length = n) (hR : rm.frames + 1 ≤ R.frames ∧ 8 + (maxL + 11) + rm.locals ≤ R.locals) (hP : P H) (hsz : ls.size = nL) (hcat : (rest.map fun v => v.category).sum ≤ 8) (hf : cells + mc ≤ R.cells ∧ slots + ms ≤ R.slots) {st0 : List Value} (hst : st0 = As.reverse ++ .ref b :: rest) (hdg : decode cc pc = .ok (.invokespecial index, 3)) (hZ : Zx E A s s.heap) (hN : ∀ q, A1 q → A q) (hS : va_S A s.heap H locs) (hA : ∀ q, q < H.size → A1 q → A q) (hfr : ∀ q, free q → A q)
    (kk : ∀ (H1 : Heap) (locs1 : List Loc), Ph H1 → H.size ≤ H1.size → (∀ q : Nat, q < H.size → ¬ A1 q → H1[q]? = H[q]?) → va_S A s.heap H1 locs1 → W p l e R s m args below meth c H1 locs1 (cells + mc) (slots + ms) Q (F0 m (pc + 3) ls (v0.toList ++ rest))) : W p l e R s m args below meth c H locs cells slots Q (F0 m pc ls st0) := by
  subst hst
  exact m_wrun (va_runI (As := As) (rest := rest) ⟨hx, hb, hml, hown, hts⟩ hM (cwI n hts hG hw hrc hrs (hts _ hini) (hts _ hlk) (hts _ hins) hy1 hd hR) (Pz.preS hK hZ hS hN hP) rfl hn hsz rfl (lv_room hcat) hdg hf) hS hA hfr kk
theorem m_wIN (n : Nat) {v0 : Option Value} {A1 : Nat → Prop} {free : Addr → Prop} {b : Addr} (As rest : List Value) (hx : p.tables.exec = Jvm.exec) (hb : c.code = cc) (hml : c.maxLocals = nL) (hown : s.vm.findClass own = some m.cls) (hts : ∀ w ∈ Ts, w.before args s = true) (hK : kK E s) (hM : Met l y ws rm (Pm E (.ref b :: As) P) (QW v0 Ph A1) mc ms free) (hG : GoodIn Ts ws) (hw : ws = Cond.code y bytes maxL none :: ws') (hrc : rm.cells = mc) (hrs : rm.slots = ms) (hini : Cond.initialized y.cls ∈ Ts) {host : String} (hlk : va_Nw (.methodLinkNest own index y host) s) (hins : Cond.instanceMethod y ∈ Ts) (hy1 : y.name = "<init>")
    (hd : y.cls ≠ "java/lang/invoke/MethodHandle" ∧ y.cls ≠ "java/lang/invoke/VarHandle" ∧ (parseMethodDescriptor y.desc).map (fun d => d.parameters.length) = some n) (hn : As.length = n) (hR : rm.frames + 1 ≤ R.frames ∧ 8 + (maxL + 11) + rm.locals ≤ R.locals) (hP : P H) (hsz : ls.size = nL) (hcat : (rest.map fun v => v.category).sum ≤ 8) (hf : cells + mc ≤ R.cells ∧ slots + ms ≤ R.slots) {st0 : List Value} (hst : st0 = As.reverse ++ .ref b :: rest) (hdg : decode cc pc = .ok (.invokespecial index, 3)) (hS : va_S A s.heap H locs) (hA : ∀ q, q < H.size → A1 q → A q) (hfr : ∀ q, free q → A q)
    (kk : ∀ (H1 : Heap) (locs1 : List Loc), Ph H1 → H.size ≤ H1.size → (∀ q : Nat, q < H.size → ¬ A1 q → H1[q]? = H[q]?) → va_S A s.heap H1 locs1 → W p l e R s m args below meth c H1 locs1 (cells + mc) (slots + ms) Q (F0 m (pc + 3) ls (v0.toList ++ rest))) : W p l e R s m args below meth c H locs cells slots Q (F0 m pc ls st0) := by
  subst hst
  exact m_wrun (va_runIN (As := As) (rest := rest) ⟨hx, hb, hml, hown, hts⟩ hM ⟨va_cnB n hts hG hw hrc hrs hlk (hts _ hini) hd hR, hy1, hts _ hins⟩ (Pm.preS hK hP) rfl hn hsz rfl (lv_room hcat) hdg hf) hS hA hfr kk
end ZC
section ZT
variable {p : Program} {l : Launch} {e : Env} {R : Room} {s : State} {m : MethodId} {args : Array Value} {below : List Frame} {meth : Method} {c : Code} {H : Heap} {locs : List Loc} {cells slots : Nat}
variable {cc : ByteArray} {pc : Nat} {ls : Array Slot} {A : Nat → Prop} {PR : Nat → Heap → Prop} {mc ms : Nat}
theorem w_r {q : Nat} (hx : p.tables.exec = Jvm.exec) (hb : c.code = cc) (hr : meth.sig.returnType = some (.array (.object "java/lang/Object"))) (hlocks : meth.locks = false) (hdg : decode cc pc = .ok (.areturn, 1)) (hS : va_S A s.heap H locs) (hc : cells ≤ mc) (hs : slots ≤ ms) (hP : PR q H) : W p l e R s m args below meth c H locs cells slots (MQ below (QR PR A) args s mc ms A) (F0 m pc ls [.ref q]) := by
  refine W.widen hc hs ?_
  exact W.aret hx hb hr (Or.inr ⟨_, rfl⟩) (Or.inr ⟨_, rfl⟩) (fun t ht hW => ⟨q, rfl, by rw [ht]; exact hP, hS.F ht⟩) hS.2.2 hdg hlocks
end ZT
