/-! THE LAW'S ENTRY -/
theorem inlX0 : ∀ w ∈ wsX00, w ∈ wsL_law := fun _ h => List.mem_append_left _ (List.mem_append_left _ (List.mem_append_left _ (List.mem_append_left _ (List.mem_append_left _ (List.mem_append_right _ h)))))
theorem inX0 : ∀ w ∈ wsX00, w ∈ lw_tbl := fun w h => wsL_law_in w (inlX0 w h)
theorem inlX1 : ∀ w ∈ wsX10, w ∈ wsL_law := fun _ h => List.mem_append_left _ (List.mem_append_left _ (List.mem_append_left _ (List.mem_append_left _ (List.mem_append_right _ h))))
theorem inX1 : ∀ w ∈ wsX10, w ∈ lw_tbl := fun w h => wsL_law_in w (inlX1 w h)
theorem inlX2 : ∀ w ∈ wsX20, w ∈ wsL_law := fun _ h => List.mem_append_left _ (List.mem_append_left _ (List.mem_append_left _ (List.mem_append_left _ (List.mem_append_left _ (List.mem_append_left _ (List.mem_append_right _ h))))))
theorem inX2 : ∀ w ∈ wsX20, w ∈ lw_tbl := fun w h => wsL_law_in w (inlX2 w h)
theorem inlX3 : ∀ w ∈ wsX30, w ∈ wsL_law := fun _ h => List.mem_append_left _ (List.mem_append_left _ (List.mem_append_left _ (List.mem_append_left _ (List.mem_append_left _ (List.mem_append_left _ (List.mem_append_left _ (List.mem_append_right _ h)))))))
theorem inX3 : ∀ w ∈ wsX30, w ∈ lw_tbl := fun w h => wsL_law_in w (inlX3 w h)
theorem inlX4 : ∀ w ∈ wsX40, w ∈ wsL_law := fun _ h => List.mem_append_left _ (List.mem_append_left _ (List.mem_append_left _ (List.mem_append_left _ (List.mem_append_left _ (List.mem_append_left _ (List.mem_append_left _ (List.mem_append_left _ (List.mem_append_left _ (List.mem_append_left _ (List.mem_append_right _ h))))))))))
theorem inX4 : ∀ w ∈ wsX40, w ∈ lw_tbl := fun w h => wsL_law_in w (inlX4 w h)
theorem inlX5 : ∀ w ∈ wsX50, w ∈ wsL_law := fun _ h => List.mem_append_left _ (List.mem_append_left _ (List.mem_append_left _ (List.mem_append_left _ (List.mem_append_left _ (List.mem_append_left _ (List.mem_append_left _ (List.mem_append_left _ (List.mem_append_left _ (List.mem_append_right _ h)))))))))
theorem inX5 : ∀ w ∈ wsX50, w ∈ lw_tbl := fun w h => wsL_law_in w (inlX5 w h)
theorem inlJx4a65c : ∀ w ∈ wsJx4a65c0, w ∈ wsL_law := fun _ h => List.mem_append_left _ (List.mem_append_left _ (List.mem_append_left _ (List.mem_append_left _ (List.mem_append_left _ (List.mem_append_left _ (List.mem_append_left _ (List.mem_append_left _ (List.mem_append_right _ h))))))))
theorem inJx4a65c : ∀ w ∈ wsJx4a65c0, w ∈ lw_tbl := fun w h => wsL_law_in w (inlJx4a65c w h)

theorem e_txt {own tx : String} {k : Nat} {A : Array Value} {U : State} (h1 : (Cond.stringRef own k tx).before A U = true) (h2 : (Cond.exactly (.string own k) "java/lang/String").before A U = true) : ∃ sa, vk_R own k tx sa U := by
  obtain ⟨a, -, -, -, ha, -⟩ := Cond.exactly_spec h2
  exact ⟨a, vk_R.of h1 ha⟩
theorem e_leni {args : Array Value} {s : State} {tm : Term} {z : Int32} (h : (Cond.eq (.length tm) (.int z)).before args s = true) : (Term.length tm).eval args s none [] s = some (.int z) := by
  cases hv : (Term.length tm).eval args s none [] s with
  | none => simp [Cond.before, Cond.holds, Cond.value, hv] at h
  | some w =>
    have hz : (Term.int z).eval args s none [] s = some (.int z) := rfl
    simp only [Cond.before, Cond.holds, Cond.value, hv, hz] at h
    cases w <;> simp_all
set_option maxHeartbeats 4000000 in
set_option maxRecDepth 100000 in
theorem l_env {b : Nat} {s : State} (hts : ∀ w ∈ lw_tbl, w.before #[Value.ref b] s = true) (hgv : (Jvm.Cond.and given_1 narrow_1).before #[Value.ref b] s = true) : ∃ E : gE, kK E s ∧ Zx E (fun q => s.heap.size ≤ q) s s.heap := by
  have hpv := flat_of_before _ hgv
  have hA : ∀ a : Nat, a < s.heap.size → ¬ (fun q => s.heap.size ≤ q) a := fun a h => Nat.not_le.mpr h
  obtain ⟨cI, kI, coI, i1, i2, i3⟩ := Cond.arrayClass_spec (hts (.arrayClass .int) (by decide +kernel))
  obtain ⟨cJ, kJ, coJ, j1, j2, j3⟩ := Cond.arrayClass_spec (hts (.arrayClass .long) (by decide +kernel))
  obtain ⟨coO, cO, kO, o1, -, o2, o3, o4⟩ := Cond.arrayOver_spec (hts (.arrayOver (.object "java/lang/Object")) (by decide +kernel))
  obtain ⟨td, ht1, ht2⟩ := va_Tof (A := fun q => s.heap.size ≤ q) (N := 0) (f := fun _ => .null) (tm := .static "java/util/ArrayList" "DEFAULTCAPACITY_EMPTY_ELEMENTDATA" "[Ljava/lang/Object;") (ty := .object "java/lang/Object") (by decide) (hpv _ (by decide +kernel)) (e_leni (hpv _ (by decide +kernel))) (fun j hj => absurd hj (Nat.not_lt_zero j)) hA
  obtain ⟨mi, hmi⟩ := va_Mi.of (C := "[Ljava/lang/Object;") (hpv _ (by decide +kernel))
  obtain ⟨c0, f0, h0⟩ := u_known (C := RJx4a65c) (T := TJx4a65c) (N := 3) (n := 3) hts inJx4a65c (hts (.instantiable RJx4a65c 3) (by decide +kernel))
  obtain ⟨c1, f1, h1⟩ := u_known (C := RX0) (T := TX0) (N := 5) (n := 5) hts inX0 (hts (.instantiable RX0 5) (by decide +kernel))
  obtain ⟨c2, f2, h2⟩ := u_known (C := RX1) (T := TX1) (N := 7) (n := 7) hts inX1 (hts (.instantiable RX1 7) (by decide +kernel))
  obtain ⟨c3, f3, h3⟩ := u_known (C := RX2) (T := TX2) (N := 6) (n := 6) hts inX2 (hts (.instantiable RX2 6) (by decide +kernel))
  obtain ⟨c4, f4, h4⟩ := u_known (C := RX3) (T := TX3) (N := 3) (n := 3) hts inX3 (hts (.instantiable RX3 3) (by decide +kernel))
  obtain ⟨c5, f5, h5⟩ := u_known (C := RX4) (T := TX4) (N := 8) (n := 8) hts inX4 (hts (.instantiable RX4 8) (by decide +kernel))
  obtain ⟨c6, f6, h6⟩ := u_known (C := RX5) (T := TX5) (N := 11) (n := 11) hts inX5 (hts (.instantiable RX5 11) (by decide +kernel))
  refine ⟨((fun c => match c with | 0 => c0 | 1 => c1 | 2 => c2 | 3 => c3 | 4 => c4 | 5 => c5 | 6 => c6 | _ => 0, fun c => match c with | 0 => f0 | 1 => f1 | 2 => f2 | 3 => f3 | 4 => f4 | 5 => f5 | 6 => f6 | _ => fun _ => mi), (cI, cJ, cO, td)), ⟨fun c q hq => ?_, fun k q hq => ?_⟩, ?_, ?_⟩
  · rcases c with _ | _ | _ | _ | _ | _ | _ | c
    · cases hq; exact h0
    · cases hq; exact h1
    · cases hq; exact h2
    · cases hq; exact h3
    · cases hq; exact h4
    · cases hq; exact h5
    · cases hq; exact h6
    · simp at hq
  · rcases k with _ | _ | _ | k
    · cases hq; exact ⟨fun n z => ⟨fun k h => (by cases h), kI, i2, coI, i3⟩, i1⟩
    · cases hq; exact ⟨fun n z => ⟨fun k h => (by cases h), kJ, j2, coJ, j3⟩, j1⟩
    · cases hq; exact ⟨fun n z => ⟨fun k h => (by cases h), kO, o2, coO, o3⟩, kO, coO, o2, o3, o1, o4⟩
    · simp [tyE] at hq
  · refine ⟨va_AO.of (hts _ (by decide +kernel)), va_Dc.of (hts _ (by decide +kernel)), hmi, ?_, ?_, ⟨va_Nc.of (hpv _ (by decide +kernel)), va_Nc.of (hpv _ (by decide +kernel)), va_Nc.of (hpv _ (by decide +kernel))⟩, ?_, va_Nw.of rfl (hts _ (by decide +kernel)), ?_⟩
    · intro C hC
      simp only [List.mem_cons, List.not_mem_nil, or_false] at hC
      rcases hC with rfl | rfl | rfl
      · exact va_Nw.of rfl (hts (.castable RX0 "java/lang/Object") (by decide +kernel))
      · exact va_Nw.of rfl (hts (.castable RX1 "java/lang/Object") (by decide +kernel))
      · exact va_Nw.of rfl (hts (.castable RX2 "java/lang/Object") (by decide +kernel))
    · intro C hC
      simp only [List.mem_cons, List.not_mem_nil, or_false] at hC
      rcases hC with rfl | rfl | rfl
      · exact va_Nw.of rfl (hts (.castable "java/lang/IllegalArgumentException" "java/lang/IllegalArgumentException") (by decide +kernel))
      · exact va_Nw.of rfl (hts (.castable "java/lang/IllegalStateException" "java/lang/IllegalStateException") (by decide +kernel))
      · exact va_Nw.of rfl (hts (.castable "java/lang/IndexOutOfBoundsException" "java/lang/IndexOutOfBoundsException") (by decide +kernel))
    · intro q hq
      simp only [zTxt, List.mem_cons, List.not_mem_nil, or_false] at hq
      rcases hq with rfl | rfl | rfl | rfl | rfl | rfl | rfl | rfl | rfl | rfl | rfl | rfl | rfl | rfl | rfl | rfl | rfl
      · exact e_txt (hts _ (by decide +kernel)) (hpv _ (by decide +kernel))
      · exact e_txt (hts _ (by decide +kernel)) (hpv _ (by decide +kernel))
      · exact e_txt (hts _ (by decide +kernel)) (hpv _ (by decide +kernel))
      · exact e_txt (hts _ (by decide +kernel)) (hpv _ (by decide +kernel))
      · exact e_txt (hts _ (by decide +kernel)) (hpv _ (by decide +kernel))
      · exact e_txt (hts _ (by decide +kernel)) (hpv _ (by decide +kernel))
      · exact e_txt (hts _ (by decide +kernel)) (hpv _ (by decide +kernel))
      · exact e_txt (hts _ (by decide +kernel)) (hpv _ (by decide +kernel))
      · exact e_txt (hts _ (by decide +kernel)) (hpv _ (by decide +kernel))
      · exact e_txt (hts _ (by decide +kernel)) (hpv _ (by decide +kernel))
      · exact e_txt (hts _ (by decide +kernel)) (hpv _ (by decide +kernel))
      · exact e_txt (hts _ (by decide +kernel)) (hpv _ (by decide +kernel))
      · exact e_txt (hts _ (by decide +kernel)) (hpv _ (by decide +kernel))
      · exact e_txt (hts _ (by decide +kernel)) (hpv _ (by decide +kernel))
      · exact e_txt (hts _ (by decide +kernel)) (hpv _ (by decide +kernel))
      · exact e_txt (hts _ (by decide +kernel)) (hpv _ (by decide +kernel))
      · exact e_txt (hts _ (by decide +kernel)) (hpv _ (by decide +kernel))
    · intro C hC
      simp only [List.mem_cons, List.not_mem_nil, or_false] at hC
      rcases hC with rfl | rfl | rfl
      · exact va_Nw.of rfl (hts (.declares (Bundle.initS "java/lang/RuntimeException")) (by decide +kernel))
      · exact va_Nw.of rfl (hts (.declares (Bundle.initS "java/lang/Exception")) (by decide +kernel))
      · exact va_Nw.of rfl (hts (.declares (Bundle.initS "java/lang/Throwable")) (by decide +kernel))
  · exact ⟨va_Zof (hts _ (by decide +kernel)) (hts _ (by decide +kernel)) ht1 hA, ht2, vx_Zqof (hts _ (by decide +kernel)) (hts _ (by decide +kernel)) (hpv _ (by decide +kernel)) hA, vx_Zqof (hts _ (by decide +kernel)) (hts _ (by decide +kernel)) (hpv _ (by decide +kernel)) hA⟩
set_option maxHeartbeats 4000000 in
set_option maxRecDepth 100000 in
theorem l_entry {p : Program} {e : Env} {s : State} {m : MethodId} {below : List Frame} {meth : Method} {c : Code} (l : Launch) (hl9 : l.stackTraces = false) (hmost : ∀ σ, VS σ → (mgS σ (kU σ)).1 = mdM σ (kU σ)) {b L : Nat} {xs : Nat → Int32} (hL : L ≤ 2560) (C0 : lw_At p s m meth c b L xs) : W p l e room_1 s m #[Value.ref b] below meth c s.heap [] 0 0 (lw_Z below #[Value.ref b] s) (entryFrame m ([Value.ref b] : List Value).toArray 9) := by
  obtain ⟨hx, hb, hr, hml, hown, hts0, hX, hbl, hlocks, hgv⟩ := id C0
  obtain ⟨E, hK, hZ⟩ := l_env hts0 hgv
  have hts : ∀ w ∈ wsL_law, w.before #[Value.ref b] s = true := fun w h => hts0 w (wsL_law_in w h)
  have hS : va_S (fun q => s.heap.size ≤ q) s.heap s.heap [] := va_S.rf
  have hd0 := Drawn.sameBut.refl s.drawn lw_cs
  have hl := lv_entry ([.ref b]) (n := 9) (Nat.le_of_ble_eq_true rfl)
  rw [lg_entry_eq]
  generalize (lg_sl ([.ref b]) ++ List.replicate (9 - (lg_sl ([.ref b])).length) Slot.unset).toArray = ls at hl ⊢
  have hl : lv_has ls 9 [(0, .ref b)] := hl
  have hown : s.vm.findClass RL = some m.cls := hown
  have hM0 : mP E (fun q => s.heap.size ≤ q) (fun _ => 0) (fun _ => none) s.heap := ⟨fun t e h => (nomatch h), fun t u e f h => (nomatch h)⟩
  refine m_newZ (ci := 5) hx hb hts inlX4 tyX4 tyX4_ok hown (by decide +kernel) (by decide +kernel) (by decide +kernel) hK hM0 hS (fun q h => h) 0 rfl rfl (fs := [.null, .null, .null, .null, .int 0, .int 0, .int 0, .int 0]) (fun j hj => by rcases (show j = 0 ∨ j = 1 ∨ j = 2 ∨ j = 3 ∨ j = 4 ∨ j = 5 ∨ j = 6 ∨ j = 7 by omega) with rfl | rfl | rfl | rfl | rfl | rfl | rfl | rfl <;> rfl) (Nat.le_of_ble_eq_true rfl) (Nat.le_of_ble_eq_true rfl) dL_law_0 (fun H hM hz hk hS => ?_)
  obtain ⟨g, M, hg0, h0, hN, hM⟩ : ∃ (g : Nat → Nat) (M : gM), g 0 = s.heap.size ∧ M 0 = some (.inr (5, [.null, .null, .null, .null, .int 0, .int 0, .int 0, .int 0])) ∧ (∀ t, 0 < t → M t = none) ∧ mP E (fun q => s.heap.size ≤ q) g M H := ⟨_, _, gu1_s, mu_s, fun t ht => mu_n (by omega), hM⟩
  refine W.eq (g2 := F0 m 3 ls [.ref (g 0)]) (by rw [hg0]) ?_
  refine lv_dup hx hb dL_law_3 rfl ?_
  refine m_zI 0 [] [.ref (g 0)] hx hb hml hown hts hK (c_start l E _ g M h0 hN) gL_law_X4_init rfl rfl rfl (by decide +kernel) (by decide +kernel) (by decide +kernel) rfl (by decide +kernel) rfl ⟨Nat.le_of_ble_eq_true rfl, Nat.le_of_ble_eq_true rfl⟩ ⟨hM, fun q h => by omega⟩ hl.1 (Nat.le_of_ble_eq_true rfl) ⟨Nat.le_of_ble_eq_true rfl, Nat.le_of_ble_eq_true rfl⟩ rfl dL_law_4 hZ (fun _ h => h) hS (fun _ _ h => h) (fun _ h => h) (fun H locs hQ hz9 hk9 hS => ?_)
  obtain ⟨g1, M1, hg1, hM1, hX1⟩ := hQ
  refine W.eq (g2 := F0 m 7 ls [.ref (g1 0)]) (by rw [hg1]; rfl) ?_
  refine lv_astore_n (lv' := [(1, .ref (g1 0)), (0, .ref b)]) hx hb dL_law_7 rfl hl (by decide) rfl (fun ls hl => ?_)
  refine m_newZ (ci := 6) hx hb hts inlX5 tyX5 tyX5_ok hown (by decide +kernel) (by decide +kernel) (by decide +kernel) hK (M := fun _ => none) (g := fun _ => 0) ⟨fun t e h => (nomatch h), fun t u e f h => (nomatch h)⟩ hS (fun q h => Nat.le_trans hS.1 h) 0 rfl rfl (fs := [.int 0, .int 0, .int 0, .int 0, .int 0, .null, .null, .null, .null, .null, .null]) (fun j hj => by rcases (show j = 0 ∨ j = 1 ∨ j = 2 ∨ j = 3 ∨ j = 4 ∨ j = 5 ∨ j = 6 ∨ j = 7 ∨ j = 8 ∨ j = 9 ∨ j = 10 by omega) with rfl | rfl | rfl | rfl | rfl | rfl | rfl | rfl | rfl | rfl | rfl <;> rfl) (Nat.le_of_ble_eq_true rfl) (Nat.le_of_ble_eq_true rfl) dL_law_8 (fun H2 hM2 hz2 hk2 hS2 => ?_)
  obtain ⟨g2, M2, hg2, h02, hN2, hM2⟩ : ∃ (g2 : Nat → Nat) (M2 : gM), g2 0 = H.size ∧ M2 0 = some (.inr (6, [.int 0, .int 0, .int 0, .int 0, .int 0, .null, .null, .null, .null, .null, .null])) ∧ (∀ t, 0 < t → M2 t = none) ∧ mP E (fun q => s.heap.size ≤ q) g2 M2 H2 := ⟨_, _, gu1_s, mu_s, fun t ht => mu_n (by omega), hM2⟩
  have hM2 : mP E (fun q => H.size ≤ q) g2 M2 H2 := hM2.on fun q hq => by
    obtain ⟨t, e, ht, hq⟩ := hq
    by_cases h : t = 0
    · subst h
      rw [← hq, hg2]
      exact Nat.le_refl _
    · rw [hN2 t (by omega)] at ht
      cases ht
  have hlt1 : ∀ t e, M1 t = some e → g1 t < H.size := fun t e ht => hM1.lt ht
  have hM1 := hM1.kept (fun t e ht => hk2 _ (hM1.lt ht))
  refine W.eq (g2 := F0 m 11 ls [.ref (g2 0)]) (by rw [hg2]) ?_
  refine lv_dup hx hb dL_law_11 rfl ?_
  refine m_wI 0 [] [.ref (g2 0)] hx hb hml hown hts hK (m_init l E _ g2 M2 h02 hN2) gL_law_X5_init rfl rfl rfl (by decide +kernel) (by decide +kernel) (by decide +kernel) rfl (by decide +kernel) rfl ⟨Nat.le_of_ble_eq_true rfl, Nat.le_of_ble_eq_true rfl⟩ ⟨hM2, fun q h => by omega⟩ hl.1 (Nat.le_of_ble_eq_true rfl) ⟨Nat.le_of_ble_eq_true rfl, Nat.le_of_ble_eq_true rfl⟩ rfl dL_law_12 hS2 (fun _ _ h => Nat.le_trans hS.1 h) (fun _ h => Nat.le_trans hS.1 h) (fun H3 locs hQ hz3 hk3 hS3 => ?_)
  obtain ⟨g3, M3, hg3, hM3, hX3⟩ := hQ
  have hM1 := hM1.kept (fun t e ht => hk3 _ (hM1.lt ht) (Nat.not_le.mpr (hlt1 t e ht)))
  refine W.eq (g2 := F0 m 15 ls [.ref (g3 0)]) (by rw [hg3]; rfl) ?_
  refine lv_astore_n (lv' := [(2, .ref (g3 0)), (1, .ref (g1 0)), (0, .ref b)]) hx hb dL_law_15 rfl hl (by decide) rfl (fun ls hl => ?_)
  refine lv_iconst (v := 1) hx hb dL_law_16 (by decide) ?_
  refine va_newaK (atype := .long) hx hb (hts (.arrayClass .long) (by decide +kernel)) rfl dL_law_17 rfl (by decide) (show (1 : Int32).toNatClampNeg = 1 by decide) (by decide) (Nat.le_of_ble_eq_true rfl) (Nat.le_of_ble_eq_true rfl) rfl fun H4 cA e1 z1 o1 hAr hNm => ?_
  have hcA : cA = E.2.2.1 := by
    have h9 : s.vm.findClass ("[" ++ (FieldType.long).toString) = some E.2.2.1 := (hK.2 1 _ rfl).2
    exact Option.some.inj (hNm.symm.trans h9)
  subst hcA
  have hO : oC E H3.size (fun _ => 0) H4 := by
    show H4[H3.size]? = some (vp_cell _ _)
    rw [vp_cell_l]
    exact e1
  have hS4 : va_S (fun q => s.heap.size ≤ q) s.heap H4 locs := ⟨Nat.le_trans hS3.1 (by omega), fun x h1 h2 => (o1 x (Nat.lt_of_lt_of_le h1 hS3.1)).trans (hS3.2.1 x h1 h2), hS3.2.2⟩
  have hM1 := hM1.kept (fun t e ht => o1 _ (hM1.lt ht))
  have hlt3 : ∀ t e, M3 t = some e → g3 t < H3.size := fun t e ht => hM3.lt ht
  have hM3 := hM3.kept (fun t e ht => o1 _ (hM3.lt ht))
  refine W.eq (g2 := F0 m 19 ls [.ref H3.size]) rfl ?_
  refine lv_astore_n (lv' := [(3, .ref H3.size), (2, .ref (g3 0)), (1, .ref (g1 0)), (0, .ref b)]) hx hb dL_law_19 rfl hl (by decide) rfl (fun ls hl => ?_)
  refine lv_iconst (v := nI 0) hx hb dL_law_20 (by decide) ?_
  refine lv_istore (lv' := [(4, .int (nI 0)), (3, .ref H3.size), (2, .ref (g3 0)), (1, .ref (g1 0)), (0, .ref b)]) hx hb dL_law_21 hl (by decide) rfl (fun ls hl => ?_)
  have hN3 : s.heap.size ≤ H3.size := hS3.1
  have hI : LI E s.heap.size (g1 0) (g3 0) H3.size s0 s0 0 (fun _ => 0) H4 := by
    refine ⟨g1, M1, g3, M3, ⟨rfl, hM1, hX1⟩, ⟨rfl, hM3.up fun q h => Nat.le_trans hS.1 h, hX3⟩, ⟨hO, hN3⟩, fun q hq hq2 => ?_, fun hq => ?_, fun hq => ?_⟩
    · obtain ⟨t, e, ht, rfl⟩ := hq
      have := hlt1 t e ht
      have : H.size ≤ g1 t := dmM.ok hM3 hq2
      omega
    · obtain ⟨t, e, ht, hq⟩ := hq
      have := hlt1 t e ht
      omega
    · obtain ⟨t, e, ht, hq⟩ := hq
      have := hlt3 t e ht
      omega
  exact l_loop hx hb hr hml hown hts hlocks hK hZ hX hbl hl9 hL hmost 512 0 _ _ H4 locs s0 0 _ ls s.drawn hd0 ⟨VS.s0_ok, VX.s0_ok⟩ hS4 hI hl (by omega) (by omega) (Nat.le_of_ble_eq_true rfl) (Nat.le_of_ble_eq_true rfl)
