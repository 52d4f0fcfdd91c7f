/-! THE MEMORY LAYER: a world is a function from tags (numbers) to cells, g tells where each tag's cell lies. -/
abbrev gE : Type := va_G × (ClassId × ClassId × ClassId × Nat)
abbrev gM : Type := Nat → Option va_E
/-- arrays: of int, of long, of Object; the last number: where ArrayList's empty array lies -/
def tyE (E : gE) : List (ClassId × FieldType) := [(E.2.1, .int), (E.2.2.1, .long), (E.2.2.2.1, .object "java/lang/Object")]
def kK (E : gE) (U : State) : Prop := va_K E.1 vwCl (tyE E) U
theorem kK.moved {E : gE} {u U : State} (hvm : u.vm.Alike U.vm) (h : kK E u) : kK E U := va_K.moved hvm h
def mP (E : gE) (A : Nat → Prop) (g : Nat → Nat) (M : gM) (H : Heap) : Prop :=
  (∀ t e, M t = some e → va_at E.1 vwCl (g t, e) H ∧ A (g t)) ∧ (∀ t u e f, M t = some e → M u = some f → g t = g u → t = u)
def mu (M : gM) (t : Nat) (e : va_E) : gM := fun u => if u = t then some e else M u
theorem mu_s {M : gM} {t : Nat} {e : va_E} : mu M t e t = some e := if_pos rfl
theorem mu_n {M : gM} {t u : Nat} {e : va_E} (h : u ≠ t) : mu M t e u = M u := if_neg h
theorem mu_d {M : gM} {t u : Nat} {e e0 f : va_E} (h0 : M t = some e0) (h : mu M t e u = some f) : ∃ f', M u = some f' := by
  by_cases hu : u = t
  · exact ⟨e0, by rw [hu]; exact h0⟩
  · exact ⟨f, by rw [mu_n hu] at h; exact h⟩
theorem mP.kept {E : gE} {A : Nat → Prop} {g : Nat → Nat} {M : gM} {H H1 : Heap} (h : mP E A g M H) (hk : ∀ t e, M t = some e → H1[g t]? = H[g t]?) : mP E A g M H1 :=
  ⟨fun t e ht => ⟨(h.1 t e ht).1.kept (hk t e ht), (h.1 t e ht).2⟩, h.2⟩
theorem mP.set {E : gE} {A : Nat → Prop} {g : Nat → Nat} {M : gM} {H H1 : Heap} {t : Nat} {e0 e : va_E} (h : mP E A g M H) (ht : M t = some e0) (he : va_at E.1 vwCl (g t, e) H1) (oq : ∀ q : Nat, q ≠ g t → H1[q]? = H[q]?) : mP E A g (mu M t e) H1 := by
  refine ⟨fun u f hu => ?_, fun u v f f' hu hv hg => ?_⟩
  · by_cases hut : u = t
    · subst hut
      rw [mu_s] at hu
      cases hu
      exact ⟨he, (h.1 u e0 ht).2⟩
    · rw [mu_n hut] at hu
      exact ⟨(h.1 u f hu).1.kept (oq (g u) (fun z => hut (h.2 u t f e0 hu ht z))), (h.1 u f hu).2⟩
  · obtain ⟨x, hx⟩ := mu_d ht hu
    obtain ⟨y, hy⟩ := mu_d ht hv
    exact h.2 u v x y hx hy hg
def gu1 (g : Nat → Nat) (t q : Nat) : Nat → Nat := fun u => if u = t then q else g u
theorem gu1_s {g : Nat → Nat} {t q : Nat} : gu1 g t q t = q := if_pos rfl
theorem gu1_n {g : Nat → Nat} {t q u : Nat} (h : u ≠ t) : gu1 g t q u = g u := if_neg h
theorem mP.push {E : gE} {A : Nat → Prop} {g : Nat → Nat} {M : gM} {H H1 : Heap} {t : Nat} {e : va_E} (h : mP E A g M H) (ht : M t = none) (he : va_at E.1 vwCl (H.size, e) H1) (hA : A H.size) (oq : ∀ q : Nat, q < H.size → H1[q]? = H[q]?) : mP E A (gu1 g t H.size) (mu M t e) H1 := by
  have key : ∀ u f, mu M t e u = some f → (u = t ∧ gu1 g t H.size u = H.size ∧ f = e) ∨ (u ≠ t ∧ M u = some f ∧ gu1 g t H.size u = g u ∧ g u < H.size) := by
    intro u f hu
    by_cases hut : u = t
    · subst hut
      rw [mu_s] at hu
      cases hu
      exact Or.inl ⟨rfl, gu1_s, rfl⟩
    · rw [mu_n hut] at hu
      exact Or.inr ⟨hut, hu, gu1_n hut, (h.1 u f hu).1.lt⟩
  refine ⟨fun u f hu => ?_, fun u v f f' hu hv hg => ?_⟩
  · rcases key u f hu with ⟨rfl, h2, rfl⟩ | ⟨h1, h2, h3, h4⟩
    · rw [h2]; exact ⟨he, hA⟩
    · rw [h3]; exact ⟨(h.1 u f h2).1.kept (oq _ h4), (h.1 u f h2).2⟩
  · rcases key u f hu with ⟨a1, a2, -⟩ | ⟨a1, a2, a3, a4⟩ <;> rcases key v f' hv with ⟨b1, b2, -⟩ | ⟨b1, b2, b3, b4⟩
    · rw [a1, b1]
    · rw [a2, b3] at hg; omega
    · rw [a3, b2] at hg; omega
    · rw [a3, b3] at hg
      exact h.2 u v f f' a2 b2 hg
/-- what a method finds -/
def Pm (E : gE) (av : List Value) (P : Heap → Prop) : Array Value → State → Prop := va_Pc av (fun U => P U.heap ∧ kK E U)
theorem Pm.bl {E : gE} {av : List Value} {P : Heap → Prop} : FrameBlind (Pm E av P) := fun a U g mk h => ⟨h.1, h.2.1, kK.moved (u := U) (U := U.calling g mk a) (Vm.Alike.refl U.vm) h.2.2⟩
theorem Pm.preS {E : gE} {av : List Value} {P : Heap → Prop} {s : State} {H : Heap} (hK : kK E s) (hP : P H) : PreS s H (Pm E av P) av :=
  ⟨Pm.bl, fun U hU hW => ⟨rfl, by rw [hU]; exact hP, hK.moved hW.alike⟩⟩
theorem Pm.preV {E : gE} {As : List Value} {P : Heap → Prop} {s : State} {H : Heap} {C : String} {b : Addr} (hK : kK E s) (hP : P H) (hr : ∃ cellB : Cell, H[b]? = some cellB ∧ cellB.vm.isStatics = false ∧ s.vm.findClass C = some cellB.cls) : PreV s H C b (Pm E (.ref b :: As) P) As :=
  ⟨Pm.bl, hr, fun U hU hW => ⟨rfl, by rw [hU]; exact hP, hK.moved hW.alike⟩⟩
theorem m_recv {E : gE} {A : Nat → Prop} {g : Nat → Nat} {M : gM} {H : Heap} {s : State} {t ci : Nat} {fs : List Value} {q : vw_C} (hK : kK E s) (hM : mP E A g M H) (ht : M t = some (.inr (ci, fs))) (hc : vwCl[ci]? = some q) : ∃ cell : Cell, H[g t]? = some cell ∧ cell.vm.isStatics = false ∧ s.vm.findClass q.1 = some cell.cls := by
  obtain ⟨q', h1, cell, g1, g2, g3, -⟩ := (hM.1 t _ ht).1
  exact ⟨cell, g1, by rw [g3]; rfl, by rw [g2]; exact (hK.1 ci q hc).2.1⟩
/-- a method that writes: its answer, the heap behind it, the frame -/
def QW (v : Option Value) (Ph : Heap → Prop) (A : Nat → Prop) : Array Value → State → Outcome → State → Prop := fun _ st o t => o = .returned v ∧ Ph t.heap ∧ va_F A st t
section ME
/-- a body's beginning -/
theorem m_entry {l : Launch} {E : gE} {av : List Value} {P : Heap → Prop} {y : MethodName} {ws ws' : List Cond} {rm : Room} {Qc : Array Value → State → Outcome → State → Prop} {mc ms : Nat} {free : Addr → Prop} {cc : ByteArray} {maxL : Nat} {ret : Option FieldType}
    (hy : plainName y.cls = true) (hw : ws = Cond.code y cc maxL ret :: ws') (hn : (lg_sl av).length ≤ maxL)
    (body : ∀ (p : Program) (e : Env) (s : State) (m : MethodId) (args : Array Value) (below : List Frame) (meth : Method) (c : Code), p.tables.exec = Jvm.exec → c.code = cc → meth.sig.returnType = ret → c.maxLocals = maxL → (∀ w ∈ ws, w.before args s = true) → s.vm.findClass y.cls = some m.cls → meth.locks = false → meth.name = y.name →
      P s.heap → kK E s → ∀ ls : Array Slot, lv_has ls maxL (lv_args 0 av) → W p l e rm s m args below meth c s.heap [] 0 0 (MQ below Qc args s mc ms free) (F0 m 0 ls [])) : Met l y ws rm (Pm E av P) Qc mc ms free := by
  refine Met.ofW (cc := cc) (maxL := maxL) (ret := ret) hy hw ?_
  intro p e s m args below meth c s₁ B hml hv
  obtain ⟨rfl, hP, hK⟩ := hv
  have hl := lv_entry av (n := maxL) hn
  rw [lg_entry_eq]
  exact body p e s m av.toArray below meth c B.exec B.bytes B.returns hml (atoms_spec (ws := ws) B.pre) (findClass_of_methodNamed B.named) B.notSynchronized (name_of_methodNamed B.named B.method).1 hP hK _ hl
end ME
section MR
variable {p : Program} {l : Launch} {e : Env} {R : Room} {s : State} {m : MethodId} {args : Array Value} {below : List Frame} {meth : Method} {c : Code} {H : Heap} {locs : List Loc} {cells slots : Nat} {Q : State → Prop}
variable {cc : ByteArray} {pc : Nat} {ls : Array Slot} {rest : List Value} {E : gE} {A : Nat → Prop} {g : Nat → Nat} {M : gM} {H0 : Heap} {t : Nat}
theorem m_get (hexec : p.tables.exec = Jvm.exec) (hb : c.code = cc) {own C : String} {T : u_T} {N ci index : Nat} {Ts : List Cond} (hts : ∀ w ∈ Ts, w.before args s = true) (hin : ∀ w ∈ u_ws C T N, w ∈ Ts) (hown : s.vm.findClass own = some m.cls) (hK : kK E s) (hM : mP E A g M H) {fs : List Value} (ht : M t = some (.inr (ci, fs))) (hc : vwCl[ci]? = some (C, T, N)) (k : Nat) (hk : k < N) (hlink : Cond.fieldLink own index (T k).1 (T k).2.1 (T k).2.2.1 ∈ Ts) {v : Value} (hv : fs[k]? = some v) (hdg : decode cc pc = .ok (.getfield index, 3))
    (kk : W p l e R s m args below meth c H locs cells slots Q (F0 m (pc + 3) ls (v :: rest))) : W p l e R s m args below meth c H locs cells slots Q (F0 m pc ls (.ref (g t) :: rest)) := by
  have hP : va_P E.1 vwCl [(g t, .inr (ci, fs))] H := by
    intro k q hk
    cases k with
    | zero => simp at hk; subst hk; exact (hM.1 t _ ht).1
    | succ k => simp at hk
  exact va_get (D := E.1) (ci := ci) (v := v) hexec hb hts hin hown hK hP 0 rfl hc k hk (hts _ hlink) (fun _ h => h) hv hdg kk
theorem m_put (hexec : p.tables.exec = Jvm.exec) (hb : c.code = cc) {own C : String} {T : u_T} {N ci index : Nat} {Ts : List Cond} (hts : ∀ w ∈ Ts, w.before args s = true) (hin : ∀ w ∈ u_ws C T N, w ∈ Ts) (ty0 : Nat → FieldType) (hty : ∀ k, k < N → parseFieldDescriptor (T k).2.2.1 = some (ty0 k)) (hnm : ∀ a, a < N → ∀ b, b < N → a ≠ b → (T a).2.1 ≠ (T b).2.1) (hown : s.vm.findClass own = some m.cls) (hK : kK E s) (hM : mP E A g M H) (hS0 : va_S A H0 H locs) {fs : List Value} (ht : M t = some (.inr (ci, fs))) (hc : vwCl[ci]? = some (C, T, N)) (k : Nat) (hk : k < N) (hlink : Cond.fieldLink own index (T k).1 (T k).2.1 (T k).2.2.1 ∈ Ts) (hfin : (T k).2.2.2 = false) {ty : FieldType} {v : Value} (hd : parseFieldDescriptor (T k).2.2.1 = some ty) (hn : narrow ty v = v) (hfit : fits ty v = true) (hl : k < fs.length)
    (hdg : decode cc pc = .ok (.putfield index, 3)) (kk : ∀ (H1 : Heap) (locs1 : List Loc), mP E A g (mu M t (.inr (ci, fs.set k v))) H1 → H1.size = H.size → va_S A H0 H1 locs1 → W p l e R s m args below meth c H1 locs1 cells slots Q (F0 m (pc + 3) ls rest)) : W p l e R s m args below meth c H locs cells slots Q (F0 m pc ls (v :: .ref (g t) :: rest)) := by
  have hap := va_apart (D := E.1) (cl := vwCl) (ci := ci) (own := own) hts hin ty0 hty hnm hK hc
  obtain ⟨r, h1, cell, q1, q2, q3, q4⟩ := (hM.1 t _ ht).1
  have hr : r = (C, T, N) := Option.some.inj (h1.symm.trans hc)
  subst hr
  obtain ⟨hS, hfc, kC, hkC, hkind⟩ := hK.1 ci _ hc
  obtain ⟨cf, kf, fi, f, hi, hsl⟩ := hS k hk
  have hlay := hts _ (hin _ (u_in_lay hk))
  unfold u_lay at hlay
  rw [if_neg (by rw [hfin]; decide)] at hlay
  have hst := (u_facts hfc hkC (u_lays hts hin hk) hi).1
  have h6 := u_store hfc hkC hkind hlay hi hd hn hfit
  refine W.putK hexec hb (f := f) ⟨hown, hts _ hlink, ⟨_, _, _, hi⟩, hst⟩ (by rw [q2]; exact h6) q1 q3 (by rw [hsl]; exact k2_hasslot (q4 k hk)) rfl rfl hdg fun H' e1 e2 e3 => ?_
  rw [hsl] at e1 ⊢
  exact kk H' _ (hM.set ht ⟨_, hc, t_OB.to (V := updV (vp_V fs) k v) ⟨_, e1, q2, q3, t_set q4 hap hk v⟩ (fun j _ => vp_updV_set hl v j)⟩ e3) e2 (hS0.put e2 e3 (hM.1 t _ ht).2)
theorem m_putF (hexec : p.tables.exec = Jvm.exec) (hb : c.code = cc) {own C : String} {T : u_T} {N ci index : Nat} {Ts : List Cond} (hts : ∀ w ∈ Ts, w.before args s = true) (hin : ∀ w ∈ u_ws C T N, w ∈ Ts) (ty0 : Nat → FieldType) (hty : ∀ k, k < N → parseFieldDescriptor (T k).2.2.1 = some (ty0 k)) (hnm : ∀ a, a < N → ∀ b, b < N → a ≠ b → (T a).2.1 ≠ (T b).2.1) (hown : s.vm.findClass own = some m.cls) (hK : kK E s) (hM : mP E A g M H) (hS0 : va_S A H0 H locs) {fs : List Value} (ht : M t = some (.inr (ci, fs))) (hc : vwCl[ci]? = some (C, T, N)) (k : Nat) (hk : k < N) (hlink : Cond.fieldLink own index (T k).1 (T k).2.1 (T k).2.2.1 ∈ Ts) (hfin : (T k).2.2.2 = true) (hin2 : meth.name = "<init>") (hdecl : (T k).1 = own) {ty : FieldType} {v : Value} (hd : parseFieldDescriptor (T k).2.2.1 = some ty) (hn : narrow ty v = v) (hfit : fits ty v = true) (hl : k < fs.length)
    (hdg : decode cc pc = .ok (.putfield index, 3)) (kk : ∀ (H1 : Heap) (locs1 : List Loc), mP E A g (mu M t (.inr (ci, fs.set k v))) H1 → H1.size = H.size → va_S A H0 H1 locs1 → W p l e R s m args below meth c H1 locs1 cells slots Q (F0 m (pc + 3) ls rest)) : W p l e R s m args below meth c H locs cells slots Q (F0 m pc ls (v :: .ref (g t) :: rest)) := by
  have hap := va_apart (D := E.1) (cl := vwCl) (ci := ci) (own := own) hts hin ty0 hty hnm hK hc
  obtain ⟨r, h1, cell, q1, q2, q3, q4⟩ := (hM.1 t _ ht).1
  have hr : r = (C, T, N) := Option.some.inj (h1.symm.trans hc)
  subst hr
  obtain ⟨hS, hfc, kC, hkC, hkind⟩ := hK.1 ci _ hc
  obtain ⟨cf, kf, fi, f, hi, hsl⟩ := hS k hk
  have hlay := hts _ (hin _ (u_in_lay hk))
  unfold u_lay at hlay
  rw [if_pos hfin] at hlay
  have hst := (u_facts hfc hkC (u_lays hts hin hk) hi).1
  have hcf : m.cls = cf := by
    obtain ⟨_, _, c', _, _, _, -, -, hf', -, -, -, hown2, -⟩ := Cond.laysFinal_spec hlay
    have e1 : c' = cf := by have := hi.symm.trans hf'; simp at this; exact this.1.symm
    rw [hdecl] at hown2
    rw [← e1]; exact Option.some.inj (hown.symm.trans hown2)
  have h6 := u_fits hfc hkC hkind (Or.inr hlay) hi hd hn hfit
  refine W.putFinK hexec hb hown (hts _ hlink) hi hst hcf hin2 (by rw [q2]; exact h6) q1 q3 (by rw [hsl]; exact k2_hasslot (q4 k hk)) rfl rfl hdg fun H' e1 e2 e3 => ?_
  rw [hsl] at e1 ⊢
  exact kk H' _ (hM.set ht ⟨_, hc, t_OB.to (V := updV (vp_V fs) k v) ⟨_, e1, q2, q3, t_set q4 hap hk v⟩ (fun j _ => vp_updV_set hl v j)⟩ e3) e2 (hS0.put e2 e3 (hM.1 t _ ht).2)
theorem m_iald (hexec : p.tables.exec = Jvm.exec) (hb : c.code = cc) (hK : kK E s) (hM : mP E A g M H) {n : Nat} {f : Nat → Int32} (ht : M t = some (.inl (E.2.1, n, .inl f))) {i : Int32} {v : Int32} (hin : vp_in i n) (hv : f i.toNatClampNeg = v) (hdg : decode cc pc = .ok (.iaload, 1))
    (kk : W p l e R s m args below meth c H locs cells slots Q (F0 m (pc + 1) ls (.int v :: rest))) : W p l e R s m args below meth c H locs cells slots Q (F0 m pc ls (.int i :: .ref (g t) :: rest)) := by
  subst hv
  have hP : va_P E.1 vwCl [(g t, .inl (E.2.1, n, .inl f))] H := by
    intro k q hk
    cases k with
    | zero => simp at hk; subst hk; exact (hM.1 t _ ht).1
    | succ k => simp at hk
  exact va_iald (D := E.1) hexec hb hK hP 0 0 rfl rfl hin hdg kk
theorem m_alen (hexec : p.tables.exec = Jvm.exec) (hb : c.code = cc) (hK : kK E s) (hM : mP E A g M H) {n : Nat} {f : Nat → Int32} (ht : M t = some (.inl (E.2.1, n, .inl f))) {v : Int32} (hv : Int32.ofNat n = v) (hdg : decode cc pc = .ok (.arraylength, 1))
    (kk : W p l e R s m args below meth c H locs cells slots Q (F0 m (pc + 1) ls (.int v :: rest))) : W p l e R s m args below meth c H locs cells slots Q (F0 m pc ls (.ref (g t) :: rest)) := by
  have hP : va_P E.1 vwCl [(g t, .inl (E.2.1, n, .inl f))] H := by
    intro k q hk
    cases k with
    | zero => simp at hk; subst hk; exact (hM.1 t _ ht).1
    | succ k => simp at hk
  exact va_alen (D := E.1) hexec hb hK hP 0 0 rfl rfl hv hdg kk
theorem m_alenO (hexec : p.tables.exec = Jvm.exec) (hb : c.code = cc) (hK : kK E s) (hM : mP E A g M H) {n : Nat} {f : Nat → Option Nat} (ht : M t = some (.inl (E.2.2.2.1, n, .inr (.inr (.inr (.inr f)))))) {v : Int32} (hv : Int32.ofNat n = v) (hdg : decode cc pc = .ok (.arraylength, 1))
    (kk : W p l e R s m args below meth c H locs cells slots Q (F0 m (pc + 1) ls (.int v :: rest))) : W p l e R s m args below meth c H locs cells slots Q (F0 m pc ls (.ref (g t) :: rest)) := by
  have hP : va_P E.1 vwCl [(g t, .inl (E.2.2.2.1, n, .inr (.inr (.inr (.inr f)))))] H := by
    intro k q hk
    cases k with
    | zero => simp at hk; subst hk; exact (hM.1 t _ ht).1
    | succ k => simp at hk
  exact va_alen (D := E.1) hexec hb hK hP 0 2 rfl rfl hv hdg kk
theorem m_aald (hexec : p.tables.exec = Jvm.exec) (hb : c.code = cc) (hK : kK E s) (hM : mP E A g M H) {n : Nat} {f : Nat → Option Nat} (ht : M t = some (.inl (E.2.2.2.1, n, .inr (.inr (.inr (.inr f)))))) {i : Int32} {v : Value} (hin : vp_in i n) (hv : va_rf (f i.toNatClampNeg) = v) (hdg : decode cc pc = .ok (.aaload, 1))
    (kk : W p l e R s m args below meth c H locs cells slots Q (F0 m (pc + 1) ls (v :: rest))) : W p l e R s m args below meth c H locs cells slots Q (F0 m pc ls (.int i :: .ref (g t) :: rest)) := by
  subst hv
  have hP : va_P E.1 vwCl [(g t, .inl (E.2.2.2.1, n, .inr (.inr (.inr (.inr f)))))] H := by
    intro k q hk
    cases k with
    | zero => simp at hk; subst hk; exact (hM.1 t _ ht).1
    | succ k => simp at hk
  exact va_aldq (D := E.1) (C := "java/lang/Object") hexec hb hK hP 0 2 rfl rfl hin hdg kk
theorem m_iast (hexec : p.tables.exec = Jvm.exec) (hb : c.code = cc) (hK : kK E s) (hM : mP E A g M H) (hS : va_S A H0 H locs) {n : Nat} {f : Nat → Int32} (ht : M t = some (.inl (E.2.1, n, .inl f))) {i x : Int32} (hin : vp_in i n) (hdg : decode cc pc = .ok (.iastore, 1))
    (kk : ∀ (H1 : Heap) (locs1 : List Loc), mP E A g (mu M t (.inl (E.2.1, n, .inl (upd f i.toNatClampNeg x)))) H1 → H1.size = H.size → va_S A H0 H1 locs1 → W p l e R s m args below meth c H1 locs1 cells slots Q (F0 m (pc + 1) ls rest)) : W p l e R s m args below meth c H locs cells slots Q (F0 m pc ls (.int x :: .int i :: .ref (g t) :: rest)) := by
  refine W.iast hexec hb (hM.1 t _ ht).1 ((hK.2 0 _ rfl).1 n (fun j => .int (f j))) (fun q => by cases q) (by show ¬ (i < 0 ∨ (arrV _ _ _).slots.size ≤ _); rw [arrV_size]; exact hin) rfl rfl hdg fun H1 e z oq => ?_
  refine kk H1 _ (hM.set ht ?_ oq) z (hS.put z oq (hM.1 t _ ht).2)
  show H1[g t]? = some (vp_cell _ _)
  rw [e]
  rw [vp_cell_i, vp_cell_i, arrV_store]
  congr 2
  funext q
  by_cases hq : q = i.toNatClampNeg
  · subst hq
    simp [updV, upd]
  · simp [updV, upd, hq]
theorem m_new (hexec : p.tables.exec = Jvm.exec) (hb : c.code = cc) {own C : String} {T : u_T} {N ci index : Nat} {Ts : List Cond} (hts : ∀ w ∈ Ts, w.before args s = true) (hin : ∀ w ∈ u_ws C T N, w ∈ Ts) (ty : Nat → FieldType) (hty : ∀ k, k < N → parseFieldDescriptor (T k).2.2.1 = some (ty k)) (hown : s.vm.findClass own = some m.cls) (hcl : Cond.classLink own index C ∈ Ts) (hinst : Cond.instantiable C N ∈ Ts) (hini : Cond.initialized C ∈ Ts)
    (hK : kK E s) (hM : mP E A g M H) (hS : va_S A H0 H locs) (hA : ∀ q, H.size ≤ q → A q) (t : Nat) (ht : M t = none) (hc : vwCl[ci]? = some (C, T, N)) {fs : List Value} (hfs : ∀ j, j < N → defaultValue (ty j) = vp_V fs j) (hcells : cells + 1 ≤ R.cells) (hslots : slots + N ≤ R.slots) (hdg : decode cc pc = .ok (.new index, 3))
    (kk : ∀ (H1 : Heap), mP E A (gu1 g t H.size) (mu M t (.inr (ci, fs))) H1 → H1.size = H.size + 1 → (∀ q, q < H.size → H1[q]? = H[q]?) → va_S A H0 H1 locs →
      W p l e R s m args below meth c H1 locs (cells + 1) (slots + N) Q (F0 m (pc + 3) ls (.ref (gu1 g t H.size t) :: rest))) : W p l e R s m args below meth c H locs cells slots Q (F0 m pc ls rest) := by
  have hKn := hK.1 ci _ hc
  refine W.newcK hexec hb hown (hts _ hcl) (hts _ hinst) (hts _ hini) rfl hdg hcells hslots hKn.2.1 rfl fun H1 kC hkC e1 z1 o1 => ?_
  have h2 := kk H1 (hM.push ht ⟨_, hc, (u_born ty hts hin hKn hkC e1 hty).to hfs⟩ (hA _ (Nat.le_refl _)) o1) z1 o1 ⟨Nat.le_trans hS.1 (by omega), fun x h1 h2 => (o1 x (Nat.lt_of_lt_of_le h1 hS.1)).trans (hS.2.1 x h1 h2), hS.2.2⟩
  rw [gu1_s] at h2
  exact h2
theorem m_newa (hexec : p.tables.exec = Jvm.exec) (hb : c.code = cc) {Ts : List Cond} (hts : ∀ w ∈ Ts, w.before args s = true) (harr : Cond.arrayClass .int ∈ Ts) (hK : kK E s) (hM : mP E A g M H) (hS : va_S A H0 H locs) (hA : ∀ q, H.size ≤ q → A q) (t : Nat) (ht : M t = none)
    {n : Int32} (N : Nat) (hn : ¬ n < 0) (hN : n.toNatClampNeg = N) (hbytes : N * 4 ≤ 536870912) (hcells : cells + 1 ≤ R.cells) (hslots : slots + N ≤ R.slots) (hdg : decode cc pc = .ok (.newarray .int, 2))
    (kk : ∀ (H1 : Heap), mP E A (gu1 g t H.size) (mu M t (.inl (E.2.1, N, .inl (fun _ => 0)))) H1 → H1.size = H.size + 1 → (∀ q, q < H.size → H1[q]? = H[q]?) → va_S A H0 H1 locs →
      W p l e R s m args below meth c H1 locs (cells + 1) (slots + N) Q (F0 m (pc + 2) ls (.ref (gu1 g t H.size t) :: rest))) : W p l e R s m args below meth c H locs cells slots Q (F0 m pc ls (.int n :: rest)) := by
  refine va_newaK (atype := .int) hexec hb (hts _ harr) rfl hdg rfl hn hN hbytes hcells hslots rfl fun H1 cA e1 z1 o1 hAr hNm => ?_
  have hcA : cA = E.2.1 := by
    have h9 : s.vm.findClass ("[" ++ (FieldType.int).toString) = some E.2.1 := (hK.2 0 _ rfl).2
    exact Option.some.inj (hNm.symm.trans h9)
  subst hcA
  have h2 := kk H1 (hM.push ht (show H1[H.size]? = some (vp_cell _ _) by rw [vp_cell_i]; exact e1) (hA _ (Nat.le_refl _)) o1) z1 o1 ⟨Nat.le_trans hS.1 (by omega), fun x h1 h2 => (o1 x (Nat.lt_of_lt_of_le h1 hS.1)).trans (hS.2.1 x h1 h2), hS.2.2⟩
  rw [gu1_s] at h2
  exact h2
theorem m_cast (hexec : p.tables.exec = Jvm.exec) (hb : c.code = cc) {own : String} {q : vw_C} {index ci : Nat} {Ts : List Cond} (hts : ∀ w ∈ Ts, w.before args s = true) (hown : s.vm.findClass own = some m.cls) (hlink : Cond.classLink own index q.1 ∈ Ts) (hK : kK E s) (hM : mP E A g M H) {fs : List Value} (ht : M t = some (.inr (ci, fs))) (hc : vwCl[ci]? = some q) (hdg : decode cc pc = .ok (.checkcast index, 3))
    (k : W p l e R s m args below meth c H locs cells slots Q (F0 m (pc + 3) ls (.ref (g t) :: rest))) : W p l e R s m args below meth c H locs cells slots Q (F0 m pc ls (.ref (g t) :: rest)) :=
  va_castS hexec hb hown (hts _ hlink) (hK.1 ci q hc).2 (m_recv hK hM ht hc) hdg k
end MR
section MC
variable {p : Program} {l : Launch} {e : Env} {R : Room} {s : State} {m : MethodId} {args : Array Value} {below : List Frame} {meth : Method} {c : Code} {H : Heap} {locs : List Loc} {cells slots : Nat} {Q : State → Prop}
variable {cc bytes : ByteArray} {pc : Nat} {ls : Array Slot} {E : gE} {A : Nat → Prop} {g : Nat → Nat} {M : gM} {H0 : Heap} {t : Nat} {Ts ws ws' : List Cond} {nL maxL index mc ms : Nat} {own : String} {y : MethodName} {ret : Option FieldType} {rm : Room} {P Ph : Heap → Prop}
/-- a call that only reads, of an instance's method -/
theorem m_cV (n : Nat) {r : Value} {b : Addr} {C : String} {T : u_T} {N : Nat} {fs : List Value} {ci : Nat} (As rest : List Value) (hx : p.tables.exec = Jvm.exec) (hb : c.code = cc) (hml : c.maxLocals = nL) (hown : s.vm.findClass own = some m.cls) (hts : ∀ w ∈ Ts, w.before args s = true) (hK : kK E s) (hM : Met l y ws rm (Pm E (.ref b :: As) P) (k2_QcV r) 0 0 (fun _ => False)) (hG : GoodIn Ts (wsV own index C y ws)) (hw : ws = Cond.code y bytes maxL ret :: ws') (hrc : rm.cells = 0) (hrs : rm.slots = 0)
    (hd : y.cls = C ∧ y.cls ≠ "java/lang/invoke/MethodHandle" ∧ y.cls ≠ "java/lang/invoke/VarHandle" ∧ (parseMethodDescriptor y.desc).map (fun d => d.parameters.length) = some n) (hn : As.length = n) (hR : rm.frames + 1 ≤ R.frames ∧ 8 + (maxL + 11) + rm.locals ≤ R.locals) (hMm : mP E A g M H) (ht : M t = some (.inr (ci, fs))) (hc : vwCl[ci]? = some (C, T, N)) (hbt : g t = b) (hP : P H) (hsz : ls.size = nL) (hcat : (rest.map fun v => v.category).sum ≤ 8) (hf : cells ≤ R.cells ∧ slots ≤ R.slots) {st0 : List Value} (hst : st0 = As.reverse ++ .ref b :: rest) (hdg : decode cc pc = .ok (.invokevirtual index, 3))
    (kk : W p l e R s m args below meth c H locs cells slots Q (F0 m (pc + 3) ls (r :: rest))) : W p l e R s m args below meth c H locs cells slots Q (F0 m pc ls st0) := by
  subst hst
  have hr := m_recv hK hMm ht hc
  rw [hbt] at hr
  exact W.callV (a := (Value.ref b :: As).toArray) (W.runV (As := As) (rest := rest) ⟨hx, hb, hml, hown, hts⟩ hM (cwV n hts hG hw hrc hrs hd hR) (Pm.preV hK hP hr) rfl hn hsz rfl (lv_room hcat) hdg hf) kk
/-- .. of a static method -/
theorem m_cS (n : Nat) {r : Value} (As rest : List Value) (hx : p.tables.exec = Jvm.exec) (hb : c.code = cc) (hml : c.maxLocals = nL) (hown : s.vm.findClass own = some m.cls) (hts : ∀ w ∈ Ts, w.before args s = true) (hK : kK E s) (hM : Met l y ws rm (Pm E As P) (k2_QcV r) 0 0 (fun _ => False)) (hG : GoodIn Ts (va_wsS own index y ws)) (hw : ws = Cond.code y bytes maxL ret :: ws') (hrc : rm.cells = 0) (hrs : rm.slots = 0)
    (hd : y.cls ≠ "java/lang/invoke/MethodHandle" ∧ y.cls ≠ "java/lang/invoke/VarHandle" ∧ (parseMethodDescriptor y.desc).map (fun d => d.parameters.length) = some n) (hn : As.length = n) (hR : rm.frames + 1 ≤ R.frames ∧ 8 + (maxL + 11) + rm.locals ≤ R.locals) (hP : P H) (hsz : ls.size = nL) (hcat : (rest.map fun v => v.category).sum ≤ 8) (hf : cells ≤ R.cells ∧ slots ≤ R.slots) {st0 : List Value} (hst : st0 = As.reverse ++ rest) (hdg : decode cc pc = .ok (.invokestatic index, 3))
    (kk : W p l e R s m args below meth c H locs cells slots Q (F0 m (pc + 3) ls (r :: rest))) : W p l e R s m args below meth c H locs cells slots Q (F0 m pc ls st0) := by
  subst hst
  exact W.callV (a := As.toArray) (W.runS (As := As) (rest := rest) ⟨hx, hb, hml, hown, hts⟩ hM (va_cwS n hts hG hw hrc hrs hd hR) (Pm.preS hK hP) rfl hn hsz rfl (lv_room hcat) hdg hf) kk
/-- a call that writes -/
theorem m_wrun {v0 : Option Value} {A1 : Nat → Prop} {free : Addr → Prop} {a : Array Value} {st0 rest : List Value} (hr : va_Run p l e R s m args below meth c H locs cells slots mc ms (F0 m pc ls st0) rest (QW v0 Ph A1 a) free) (hS : va_S A H0 H locs) (hA : ∀ q, q < H.size → A1 q → A q) (hf : ∀ q, free q → A q)
    (kk : ∀ (H1 : Heap) (locs1 : List Loc), Ph H1 → H.size ≤ H1.size → (∀ q : Nat, q < H.size → ¬ A1 q → H1[q]? = H[q]?) → va_S A H0 H1 locs1 → W p l e R s m args below meth c H1 locs1 (cells + mc) (slots + ms) Q (F0 m (pc + 3) ls (v0.toList ++ rest))) : W p l e R s m args below meth c H locs cells slots Q (F0 m pc ls st0) := by
  intro T hT X
  obtain ⟨v, st₀, t, T', L, h0, X', hL, e1, e2, ⟨hv, hp, hz, hk⟩, st⟩ := hr T hT X
  cases hv
  rw [h0] at hz hk
  obtain ⟨t2, a1, b1⟩ := kk T'.heap (locs ++ L) (by rw [e1]; exact hp) (by rw [e1]; exact hz) (fun q h1 h2 => by rw [e1]; exact hk q h1 h2)
    ⟨Nat.le_trans hS.1 (by rw [e1]; exact hz), fun q h1 h2 => by rw [e1, hk q (Nat.lt_of_lt_of_le h1 hS.1) (fun z => h2 (hA q (Nat.lt_of_lt_of_le h1 hS.1) z))]; exact hS.2.1 q h1 h2, fun q hq => by
      rcases List.mem_append.mp hq with h | h
      · exact hS.2.2 q h
      · exact hf _ (hL q h)⟩ T' rfl X'
  exact ⟨t2, st t2 a1, b1⟩
theorem m_wV (n : Nat) {v0 : Option Value} {A1 : Nat → Prop} {free : Addr → Prop} {b : Addr} {C : String} {T : u_T} {N : Nat} {fs : List Value} {ci : Nat} (As rest : List Value) (hx : p.tables.exec = Jvm.exec) (hb : c.code = cc) (hml : c.maxLocals = nL) (hown : s.vm.findClass own = some m.cls) (hts : ∀ w ∈ Ts, w.before args s = true) (hK : kK E s) (hM : Met l y ws rm (Pm E (.ref b :: As) P) (QW v0 Ph A1) mc ms free) (hG : GoodIn Ts (wsV own index C y ws)) (hw : ws = Cond.code y bytes maxL ret :: ws') (hrc : rm.cells = mc) (hrs : rm.slots = ms)
    (hd : y.cls = C ∧ y.cls ≠ "java/lang/invoke/MethodHandle" ∧ y.cls ≠ "java/lang/invoke/VarHandle" ∧ (parseMethodDescriptor y.desc).map (fun d => d.parameters.length) = some n) (hn : As.length = n) (hR : rm.frames + 1 ≤ R.frames ∧ 8 + (maxL + 11) + rm.locals ≤ R.locals) (hMm : mP E A g M H) (ht : M t = some (.inr (ci, fs))) (hc : vwCl[ci]? = some (C, T, N)) (hbt : g t = b) (hP : P H) (hsz : ls.size = nL) (hcat : (rest.map fun v => v.category).sum ≤ 8) (hf : cells + mc ≤ R.cells ∧ slots + ms ≤ R.slots) {st0 : List Value} (hst : st0 = As.reverse ++ .ref b :: rest) (hdg : decode cc pc = .ok (.invokevirtual index, 3)) (hS : va_S A H0 H locs) (hA : ∀ q, q < H.size → A1 q → A q) (hfr : ∀ q, free q → A q)
    (kk : ∀ (H1 : Heap) (locs1 : List Loc), Ph H1 → H.size ≤ H1.size → (∀ q : Nat, q < H.size → ¬ A1 q → H1[q]? = H[q]?) → va_S A H0 H1 locs1 → W p l e R s m args below meth c H1 locs1 (cells + mc) (slots + ms) Q (F0 m (pc + 3) ls (v0.toList ++ rest))) : W p l e R s m args below meth c H locs cells slots Q (F0 m pc ls st0) := by
  subst hst
  have hr := m_recv hK hMm ht hc
  rw [hbt] at hr
  exact m_wrun (va_runV (As := As) (rest := rest) ⟨hx, hb, hml, hown, hts⟩ hM (cwV n hts hG hw hrc hrs hd hR) (Pm.preV hK hP hr) rfl hn hsz rfl (lv_room hcat) hdg hf) hS hA hfr kk
theorem m_wS (n : Nat) {v0 : Option Value} {A1 : Nat → Prop} {free : Addr → Prop} (As rest : List Value) (hx : p.tables.exec = Jvm.exec) (hb : c.code = cc) (hml : c.maxLocals = nL) (hown : s.vm.findClass own = some m.cls) (hts : ∀ w ∈ Ts, w.before args s = true) (hK : kK E s) (hM : Met l y ws rm (Pm E As P) (QW v0 Ph A1) mc ms free) (hG : GoodIn Ts (va_wsS own index y ws)) (hw : ws = Cond.code y bytes maxL ret :: ws') (hrc : rm.cells = mc) (hrs : rm.slots = ms)
    (hd : y.cls ≠ "java/lang/invoke/MethodHandle" ∧ y.cls ≠ "java/lang/invoke/VarHandle" ∧ (parseMethodDescriptor y.desc).map (fun d => d.parameters.length) = some n) (hn : As.length = n) (hR : rm.frames + 1 ≤ R.frames ∧ 8 + (maxL + 11) + rm.locals ≤ R.locals) (hP : P H) (hsz : ls.size = nL) (hcat : (rest.map fun v => v.category).sum ≤ 8) (hf : cells + mc ≤ R.cells ∧ slots + ms ≤ R.slots) {st0 : List Value} (hst : st0 = As.reverse ++ rest) (hdg : decode cc pc = .ok (.invokestatic index, 3)) (hS : va_S A H0 H locs) (hA : ∀ q, q < H.size → A1 q → A q) (hfr : ∀ q, free q → A q)
    (kk : ∀ (H1 : Heap) (locs1 : List Loc), Ph H1 → H.size ≤ H1.size → (∀ q : Nat, q < H.size → ¬ A1 q → H1[q]? = H[q]?) → va_S A H0 H1 locs1 → W p l e R s m args below meth c H1 locs1 (cells + mc) (slots + ms) Q (F0 m (pc + 3) ls (v0.toList ++ rest))) : W p l e R s m args below meth c H locs cells slots Q (F0 m pc ls st0) := by
  subst hst
  exact m_wrun (va_runS (As := As) (rest := rest) ⟨hx, hb, hml, hown, hts⟩ hM (va_cwS n hts hG hw hrc hrs hd hR) (Pm.preS hK hP) rfl hn hsz rfl (lv_room hcat) hdg hf) hS hA hfr kk
/-- a constructor -/
theorem m_wI (n : Nat) {v0 : Option Value} {A1 : Nat → Prop} {free : Addr → Prop} {b : Addr} (As rest : List Value) (hx : p.tables.exec = Jvm.exec) (hb : c.code = cc) (hml : c.maxLocals = nL) (hown : s.vm.findClass own = some m.cls) (hts : ∀ w ∈ Ts, w.before args s = true) (hK : kK E s) (hM : Met l y ws rm (Pm E (.ref b :: As) P) (QW v0 Ph A1) mc ms free) (hG : GoodIn Ts ws) (hw : ws = Cond.code y bytes maxL none :: ws') (hrc : rm.cells = mc) (hrs : rm.slots = ms) (hini : Cond.initialized y.cls ∈ Ts) (hlk : Cond.methodLink own index y ∈ Ts) (hins : Cond.instanceMethod y ∈ Ts) (hy1 : y.name = "<init>")
    (hd : y.cls ≠ "java/lang/invoke/MethodHandle" ∧ y.cls ≠ "java/lang/invoke/VarHandle" ∧ (parseMethodDescriptor y.desc).map (fun d => d.parameters.length) = some n) (hn : As.length = n) (hR : rm.frames + 1 ≤ R.frames ∧ 8 + (maxL + 11) + rm.locals ≤ R.locals) (hP : P H) (hsz : ls.size = nL) (hcat : (rest.map fun v => v.category).sum ≤ 8) (hf : cells + mc ≤ R.cells ∧ slots + ms ≤ R.slots) {st0 : List Value} (hst : st0 = As.reverse ++ .ref b :: rest) (hdg : decode cc pc = .ok (.invokespecial index, 3)) (hS : va_S A H0 H locs) (hA : ∀ q, q < H.size → A1 q → A q) (hfr : ∀ q, free q → A q)
    (kk : ∀ (H1 : Heap) (locs1 : List Loc), Ph H1 → H.size ≤ H1.size → (∀ q : Nat, q < H.size → ¬ A1 q → H1[q]? = H[q]?) → va_S A H0 H1 locs1 → W p l e R s m args below meth c H1 locs1 (cells + mc) (slots + ms) Q (F0 m (pc + 3) ls (v0.toList ++ rest))) : W p l e R s m args below meth c H locs cells slots Q (F0 m pc ls st0) := by
  subst hst
  exact m_wrun (va_runI (As := As) (rest := rest) ⟨hx, hb, hml, hown, hts⟩ hM (cwI n hts hG hw hrc hrs (hts _ hini) (hts _ hlk) (hts _ hins) hy1 hd hR) (Pm.preS hK hP) rfl hn hsz rfl (lv_room hcat) hdg hf) hS hA hfr kk
end MC
section MT
variable {p : Program} {l : Launch} {e : Env} {R : Room} {s : State} {m : MethodId} {args : Array Value} {below : List Frame} {meth : Method} {c : Code} {H : Heap} {locs : List Loc} {cells slots : Nat}
variable {cc : ByteArray} {pc : Nat} {ls : Array Slot} {A : Nat → Prop} {Ph : Heap → Prop} {mc ms : Nat}
/-- ends of methods that only read -/
theorem r_i {x y : Int32} (hx : p.tables.exec = Jvm.exec) (hb : c.code = cc) (hr : meth.sig.returnType = some .int) (hlocks : meth.locks = false) (hdg : decode cc pc = .ok (.ireturn, 1)) (e1 : x = y) : W p l e R s m args below meth c s.heap [] 0 0 (MQ below (k2_QcV (.int y)) args s 0 0 (fun _ => False)) (F0 m pc ls [.int x]) := by
  subst e1
  exact W.iret hx hb hr (fun t ht hW => ⟨rfl, ht⟩) (fun q hq => absurd hq List.not_mem_nil) hdg hlocks
def bI (b : Bool) : Int32 := if b then 1 else 0
theorem bI_t {b : Bool} (h : ¬ bI b = 0) : b = true := by cases b <;> simp_all [bI]
theorem bI_f {b : Bool} (h : bI b = 0) : b = false := by cases b <;> simp_all [bI]
theorem bI_1 : bI true = 1 := rfl
theorem bI_0 : bI false = 0 := rfl
theorem r_z {x : Int32} {b : Bool} (hx : p.tables.exec = Jvm.exec) (hb : c.code = cc) (hr : meth.sig.returnType = some .boolean) (hlocks : meth.locks = false) (hdg : decode cc pc = .ok (.ireturn, 1)) (e1 : x = bI b) : W p l e R s m args below meth c s.heap [] 0 0 (MQ below (k2_QcV (.int (bI b))) args s 0 0 (fun _ => False)) (F0 m pc ls [.int x]) := by
  subst e1
  exact W.zret hx hb hr (by cases b <;> rfl) (fun t ht hW => ⟨rfl, ht⟩) (fun q hq => absurd hq List.not_mem_nil) hdg hlocks
theorem r_a {x y : Addr} {ty : String} (hx : p.tables.exec = Jvm.exec) (hb : c.code = cc) (hr : meth.sig.returnType = some (.object ty)) (hlocks : meth.locks = false) (hdg : decode cc pc = .ok (.areturn, 1)) (e1 : x = y) : W p l e R s m args below meth c s.heap [] 0 0 (MQ below (k2_QcV (.ref y)) args s 0 0 (fun _ => False)) (F0 m pc ls [.ref x]) := by
  subst e1
  exact W.aret hx hb hr (Or.inl ⟨_, rfl⟩) (Or.inr ⟨_, rfl⟩) (fun t ht hW => ⟨rfl, ht⟩) (fun q hq => absurd hq List.not_mem_nil) hdg hlocks
theorem r_l {x y : Int64} (hx : p.tables.exec = Jvm.exec) (hb : c.code = cc) (hr : meth.sig.returnType = some .long) (hlocks : meth.locks = false) (hdg : decode cc pc = .ok (.lreturn, 1)) (e1 : x = y) : W p l e R s m args below meth c s.heap [] 0 0 (MQ below (k2_QcV (.long y)) args s 0 0 (fun _ => False)) (F0 m pc ls [.long x]) := by
  subst e1
  exact W.lret hx hb hr (fun t ht hW => ⟨rfl, ht⟩) (fun q hq => absurd hq List.not_mem_nil) hdg hlocks
/-- ends of methods that write -/
theorem w_i {x y : Int32} (hx : p.tables.exec = Jvm.exec) (hb : c.code = cc) (hr : meth.sig.returnType = some .int) (hlocks : meth.locks = false) (hdg : decode cc pc = .ok (.ireturn, 1)) (hS : va_S A s.heap H locs) (hc : cells ≤ mc) (hs : slots ≤ ms) (e1 : x = y) (hP : Ph H) : W p l e R s m args below meth c H locs cells slots (MQ below (QW (some (.int y)) Ph A) args s mc ms A) (F0 m pc ls [.int x]) := by
  subst e1
  refine W.widen hc hs ?_
  exact W.iret hx hb hr (fun t ht hW => ⟨rfl, by rw [ht]; exact hP, hS.F ht⟩) hS.2.2 hdg hlocks
theorem w_z {x : Int32} {b : Bool} (hx : p.tables.exec = Jvm.exec) (hb : c.code = cc) (hr : meth.sig.returnType = some .boolean) (hlocks : meth.locks = false) (hdg : decode cc pc = .ok (.ireturn, 1)) (hS : va_S A s.heap H locs) (hc : cells ≤ mc) (hs : slots ≤ ms) (e1 : x = bI b) (hP : Ph H) : W p l e R s m args below meth c H locs cells slots (MQ below (QW (some (.int (bI b))) Ph A) args s mc ms A) (F0 m pc ls [.int x]) := by
  subst e1
  refine W.widen hc hs ?_
  exact W.zret hx hb hr (by cases b <;> rfl) (fun t ht hW => ⟨rfl, by rw [ht]; exact hP, hS.F ht⟩) hS.2.2 hdg hlocks
theorem w_v (hx : p.tables.exec = Jvm.exec) (hb : c.code = cc) (hr : meth.sig.returnType = none) (hlocks : meth.locks = false) (hdg : decode cc pc = .ok (.return_, 1)) (hS : va_S A s.heap H locs) (hc : cells ≤ mc) (hs : slots ≤ ms) (hP : Ph H) : W p l e R s m args below meth c H locs cells slots (MQ below (QW none Ph A) args s mc ms A) (F0 m pc ls []) := by
  refine W.widen hc hs ?_
  exact W.vret hx hb hr (fun t ht hW => ⟨rfl, by rw [ht]; exact hP, hS.F ht⟩) hS.2.2 hdg hlocks
theorem w_l {x y : Int64} (hx : p.tables.exec = Jvm.exec) (hb : c.code = cc) (hr : meth.sig.returnType = some .long) (hlocks : meth.locks = false) (hdg : decode cc pc = .ok (.lreturn, 1)) (hS : va_S A s.heap H locs) (hc : cells ≤ mc) (hs : slots ≤ ms) (e1 : x = y) (hP : Ph H) : W p l e R s m args below meth c H locs cells slots (MQ below (QW (some (.long y)) Ph A) args s mc ms A) (F0 m pc ls [.long x]) := by
  subst e1
  refine W.widen hc hs ?_
  exact W.lret hx hb hr (fun t ht hW => ⟨rfl, by rw [ht]; exact hP, hS.F ht⟩) hS.2.2 hdg hlocks
end MT
theorem m_inc (i : Nat) : nI i + Int32.ofInt 1 = nI (i + 1) := nI_1 i
