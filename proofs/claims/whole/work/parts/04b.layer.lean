/-! forgetting a cell; another address where no cell is -/
theorem mP.drop {E : gE} {A : Nat → Prop} {g : Nat → Nat} {M M2 : gM} {H : Heap} (h : mP E A g M H) (hs : ∀ t e, M2 t = some e → M t = some e) : mP E A g M2 H :=
  ⟨fun t e ht => h.1 t e (hs t e ht), fun t u e f h1 h2 hg => h.2 t u e f (hs t e h1) (hs u f h2) hg⟩
theorem mP.cong {E : gE} {A : Nat → Prop} {g g2 : Nat → Nat} {M : gM} {H : Heap} (h : mP E A g M H) (hg : ∀ t e, M t = some e → g2 t = g t) : mP E A g2 M H :=
  ⟨fun t e ht => by rw [hg t e ht]; exact h.1 t e ht, fun t u e f h1 h2 hq => h.2 t u e f h1 h2 (by rw [← hg t e h1, ← hg u f h2]; exact hq)⟩
def md (M : gM) (t : Nat) : gM := fun u => if u = t then none else M u
theorem md_s {M : gM} {t : Nat} : md M t t = none := if_pos rfl
theorem md_n {M : gM} {t u : Nat} (h : u ≠ t) : md M t u = M u := if_neg h
theorem md_sub {M : gM} {t : Nat} : ∀ u e, md M t u = some e → M u = some e := by
  intro u e h
  by_cases hu : u = t
  · subst hu; rw [md_s] at h; cases h
  · rw [md_n hu] at h; exact h
section MCP
variable {p : Program} {l : Launch} {e : Env} {R : Room} {s : State} {m : MethodId} {args : Array Value} {below : List Frame} {meth : Method} {c : Code} {H : Heap} {locs : List Loc} {cells slots : Nat} {Q : State → Prop}
variable {cc : ByteArray} {pc : Nat} {ls : Array Slot} {rest : List Value} {E : gE} {A : Nat → Prop} {g : Nat → Nat} {M : gM} {H0 : Heap}
theorem m_copyi {Ts : List Cond} (hexec : p.tables.exec = Jvm.exec) (hb : c.code = cc) (hml : c.maxLocals = ls.size) {own : String} {index : Nat} (hown : s.vm.findClass own = some m.cls) (hts : ∀ w ∈ Ts, w.before args s = true) (hlink : Cond.methodLink own index arraycopyName ∈ Ts) (hnat : Cond.native arraycopyName ∈ Ts) (hstat : Cond.static arraycopyName ∈ Ts) (hini : Cond.initialized "java/lang/System" ∈ Ts)
    (hK : kK E s) (hM : mP E A g M H) (hS : va_S A H0 H locs) {t0 t1 : Nat} {n0 n1 : Nat} {f f1 : Nat → Int32} (ha0 : M t0 = some (.inl (E.2.1, n0, .inl f))) (ha1 : M t1 = some (.inl (E.2.1, n1, .inl f1)))
    {sp dp n : Int32} (h1 : ¬ sp < 0) (h2 : ¬ dp < 0) (h3 : ¬ n < 0) (h4 : sp.toNatClampNeg + n.toNatClampNeg ≤ n0) (h5 : dp.toNatClampNeg + n.toNatClampNeg ≤ n1)
    (hframes : 1 ≤ R.frames) (hlocals : (rest.map fun v => v.category).sum + (nativeFrameWords "java/lang/System" "arraycopy" 5 + 11) ≤ R.locals) (hdg : decode cc pc = .ok (.invokestatic index, 3))
    (kk : ∀ (H1 : Heap) (locs1 : List Loc), mP E A g (mu M t1 (.inl (E.2.1, n1, .inl (va_cpy f f1 sp.toNatClampNeg dp.toNatClampNeg n.toNatClampNeg)))) H1 → H1.size = H.size → va_S A H0 H1 locs1 → W p l e R s m args below meth c H1 locs1 cells slots Q (F0 m (pc + 3) ls rest)) : W p l e R s m args below meth c H locs cells slots Q (F0 m pc ls (.int n :: .int dp :: .ref (g t1) :: .int sp :: .ref (g t0) :: rest)) := by
  have nn : ∀ z : Int32, ¬ z < 0 → z.toInt = (z.toNatClampNeg : Int) := by
    intro z hz
    have hz0 : (0 : Int) ≤ z.toInt := by
      have := Int32.not_lt.mp hz
      simpa using Int32.le_iff_toInt_le.mp this
    show z.toInt = ((z.toInt.toNat : Nat) : Int)
    omega
  intro T hT X
  have hc0 : H[g t0]? = some (vp_cell E.2.1 (n0, .inl f)) := (hM.1 t0 _ ha0).1
  have hc1 : H[g t1]? = some (vp_cell E.2.1 (n1, .inl f1)) := (hM.1 t1 _ ha1).1
  obtain ⟨-, k0, hk0, cm0, hkk0⟩ := (hK.2 0 _ rfl).1 n0 (fun j => .int (f j))
  obtain ⟨-, k1, hk1, cm1, hkk1⟩ := (hK.2 0 _ rfl).1 n1 (fun j => .int (f1 j))
  obtain ⟨vm', X', step⟩ := X.arraycopy hexec hown (hts _ hlink) (hts _ hnat) (hts _ hstat) (hts _ hini) (src := g t0) (dst := g t1) (cs := vp_cell E.2.1 (n0, .inl f)) (cd := vp_cell E.2.1 (n1, .inl f1)) (srcPos := sp) (destPos := dp) (n := n) (by rw [hT]; exact hc0) (by rw [hT]; exact hc1)
    (fun _ h => by cases h) (fun _ h => by cases h) (fun h => by cases h) (fun h => by cases h) hk0 hk1 hkk0 hkk1 (by simp [refKind]) h1 h2 h3
    (by rw [nn sp h1, nn n h3]; show ¬ _ > ((arrV E.2.1 n0 (fun j => .int (f j))).slots.size : Int); rw [arrV_size]; omega)
    (by rw [nn dp h2, nn n h3]; show ¬ _ > ((arrV E.2.1 n1 (fun j => .int (f1 j))).slots.size : Int); rw [arrV_size]; omega)
    (fun vm₁ _ i hi => by
      have e : (vp_cell E.2.1 (n0, .inl f)).slots.getD (sp.toNatClampNeg + i) .null = .int (f (sp.toNatClampNeg + i)) := by
        show (arrV E.2.1 n0 (fun j => .int (f j))).slots.getD _ _ = _
        rw [Array.getD_eq_getD_getElem?, arrV_read _ _ (by omega)]
        rfl
      refine ⟨?_, ?_⟩
      · rw [e]; rfl
      · rw [e]
        exact trivial)
    (g := F0 m pc ls (.int n :: .int dp :: .ref (g t1) :: .int sp :: .ref (g t0) :: rest)) rfl (by rw [hml]) (rest := rest) rfl (by rw [hb]; exact hdg) hframes (by show 2 * 0 + _ + _ ≤ _; omega)
  have e1 : copied (vp_cell E.2.1 (n0, .inl f)) (vp_cell E.2.1 (n1, .inl f1)) sp dp n = vp_cell E.2.1 (n1, .inl (va_cpy f f1 sp.toNatClampNeg dp.toNatClampNeg n.toNatClampNeg)) := va_copied (fun z => .int z) E.2.1 E.2.1 f f1 h4
  rw [e1] at X' step
  have hl : g t1 < H.size := (Array.getElem?_eq_some_iff.mp hc1).1
  have hheap : ((T.setVm vm').setCell (g t1) (vp_cell E.2.1 (n1, .inl (va_cpy f f1 sp.toNatClampNeg dp.toNatClampNeg n.toNatClampNeg)))).heap = H.setIfInBounds (g t1) (vp_cell E.2.1 (n1, .inl (va_cpy f f1 sp.toNatClampNeg dp.toNatClampNeg n.toNatClampNeg))) := by rw [← hT]; rfl
  have oq : ∀ q : Nat, q ≠ g t1 → (H.setIfInBounds (g t1) (vp_cell E.2.1 (n1, .inl (va_cpy f f1 sp.toNatClampNeg dp.toNatClampNeg n.toNatClampNeg))))[q]? = H[q]? := fun q hq => by simp [Array.getElem?_setIfInBounds, Ne.symm hq]
  obtain ⟨t, a1, b1⟩ := kk _ _ (hM.set ha1 (show (H.setIfInBounds (g t1) _)[g t1]? = some _ by simp [Array.getElem?_setIfInBounds, hl]) oq) (by simp) ⟨by simp; exact hS.1, fun q g1 g2 => by
      rw [oq q (fun e => g2 (by rw [e]; exact (hM.1 t1 _ ha1).2))]
      exact hS.2.1 q g1 g2, fun q hq => by
      rcases List.mem_append.mp hq with h | h
      · exact hS.2.2 q h
      · obtain ⟨z, -, hz⟩ := List.mem_map.mp h
        rw [← hz]
        exact (hM.1 t1 _ ha1).2⟩ _ hheap X'
  exact ⟨t, step t a1, b1⟩
end MCP
