/-! WHAT EACH CALL DOES: its code, its answer, the state behind it -/
abbrev oT : Type := Int32 × Int32 × Sg
theorem ix_nat {x : Int32} {n : Nat} (hn : n < 2 ^ 31) (h : 0 ≤ x ∧ x < nI n) : ∃ k, k < n ∧ x = nI k := by
  rcases pk_ix x hn with q | q | q
  · exact absurd h.1 (Int32.not_le.mpr q)
  · exact absurd h.2 (Int32.not_lt.mpr q)
  · exact q
theorem ix_nat2 {x m : Int32} {n : Nat} (hm : m = nI n) (hn : n < 2 ^ 31) (h : 0 ≤ x ∧ x ≤ m) : ∃ k, k < n + 1 ∧ x = nI k := by
  obtain ⟨k, hk, e⟩ := int_nat hn h.1 (by rw [← hm]; exact h.2)
  exact ⟨k, by omega, e⟩
def oFu (σ : Sg) (xb xc xq : Int32) : oT := if ((1 ≤ xb ∧ xb ≤ 6) ∧ (0 ≤ xc ∧ xc ≤ 9) ∧ (0 ≤ xq ∧ xq ≤ 100)) then (if kR σ = 10 then (2, 0, σ) else (0, nI (kR σ), fuS σ xb xc xq)) else (1, 0, σ)
def oCo (σ : Sg) (xc xn xv : Int32) : oT := if ((0 ≤ xc ∧ xc ≤ 1000) ∧ (1 ≤ xn ∧ xn ≤ 6) ∧ ((-9) ≤ xv ∧ xv ≤ 90)) then (if kU σ = 12 then (2, 0, σ) else (0, nI (kU σ), coS σ xc xn xv)) else (1, 0, σ)
def oDr (σ : Sg) (x y : Int32) : oT := if (0 ≤ x ∧ x < nI (kR σ)) ∧ (0 ≤ y ∧ y < nI (kR σ)) then (if x = y then (2, 0, σ) else if bitAt (sJn σ x.toNatClampNeg) y.toNatClampNeg = true then (0, nI (kD σ), σ) else if kD σ = 20 then (3, 0, σ) else (0, nI (kD σ + 1), drS σ x.toNatClampNeg y.toNatClampNeg)) else (1, 0, σ)
def oHa (σ : Sg) (x xf xw xb : Int32) : oT := if (0 ≤ x ∧ x < nI (kR σ)) then (if ((1 ≤ xf ∧ xf ≤ 9) ∧ (0 ≤ xw ∧ xw ≤ 11) ∧ xw < xb ∧ xb ≤ 12) then (if kG σ = 5 then (3, 0, σ) else (0, nI (kG σ), haS σ x xf xw xb)) else (2, 0, σ)) else (1, 0, σ)
def oAt (σ : Sg) (x y : Int32) : oT := if (0 ≤ x ∧ x < nI (kG σ)) ∧ (0 ≤ y ∧ y ≤ 11) then (0, plc σ x.toNatClampNeg y.toNatClampNeg, σ) else (1, 0, σ)
def oHg (σ : Sg) (x y : Int32) : oT := if (0 ≤ x ∧ x < nI (kR σ)) ∧ (-1 ≤ y ∧ y ≤ 11) then (0, (if y = -1 then hON σ x (-1) 12 else hIH σ x y.toNatClampNeg (-1) (kG σ)), σ) else (1, 0, σ)
def oRm (σ : Sg) (x y : Int32) : oT := if (0 ≤ x ∧ x < nI (kR σ)) ∧ (0 ≤ y ∧ y ≤ 5) then (0, rmT σ x.toNatClampNeg y.toNatClampNeg, σ) else (1, 0, σ)
def oGu (σ : Sg) (x y : Int32) : oT := if (0 ≤ x ∧ x < nI (kU σ)) ∧ (0 ≤ y ∧ y ≤ 6) then (0, sGu σ x.toNatClampNeg y.toNatClampNeg, σ) else (1, 0, σ)
def oWi (σ : Sg) (x y : Int32) : oT := if (0 ≤ x ∧ x < nI (kR σ)) ∧ (0 ≤ y ∧ y ≤ 2) then (0, wnT σ x.toNatClampNeg y.toNatClampNeg, σ) else (1, 0, σ)
def oCt (σ : Sg) (y : Int32) : oT := if 0 ≤ y ∧ y ≤ 8 then (0, ctT σ y.toNatClampNeg, σ) else (1, 0, σ)
def oBd (σ : Sg) (x y z : Int32) : oT := if (0 ≤ x ∧ x < nI (kU σ)) ∧ (0 ≤ y ∧ y < nI (kR σ)) then (if 1 ≤ z ∧ z ≤ 200 then (0, bI (sui (biS σ x.toNatClampNeg y.toNatClampNeg z) x.toNatClampNeg y.toNatClampNeg), biS σ x.toNatClampNeg y.toNatClampNeg z) else (2, 0, σ)) else (1, 0, σ)
def oLe (σ : Sg) (x : Int32) : oT := if (0 ≤ x ∧ x < nI (kU σ)) then (0, sGu σ x.toNatClampNeg 3, uU (uU σ x.toNatClampNeg 3 (-1)) x.toNatClampNeg 4 0) else (1, 0, σ)
def oBe (σ : Sg) (x : Int32) : oT := if (0 ≤ x ∧ x < nI (kU σ)) then (0, (besA σ x.toNatClampNeg (kR σ)).1, σ) else (1, 0, σ)
def oSc (σ : Sg) (x : Int32) : oT := if (0 ≤ x ∧ x < nI (kG σ)) then (0, bkA σ (-1) (kR σ) - bkA σ x (kR σ), σ) else (1, 0, σ)
/-- a contract in a larger room, of less -/
theorem met_wide {l : Launch} {y : MethodName} {ws : List Cond} {rm rm' : Room} {Pc Pc' : Array Value → State → Prop} {Qc Qc' : Array Value → State → Outcome → State → Prop} {mc ms mc' ms' : Nat} {free : Addr → Prop} (h : Met l y ws rm Pc Qc mc ms free) (hP : ∀ a s, Pc' a s → Pc a s) (hQ : ∀ a s o t, Qc a s o t → Qc' a s o t) (f1 : rm.frames ≤ rm'.frames) (f2 : rm.locals ≤ rm'.locals) (f3 : rm.cells ≤ rm'.cells) (f4 : rm.slots ≤ rm'.slots) (f5 : mc ≤ mc') (f6 : ms ≤ ms') : Met l y ws rm' Pc' Qc' mc' ms' free := by
  intro p e ha hc hk s m args below hf happ hP9 hK
  have happ2 : (headSpec ws rm).appliesLoose y e.platform s = true := by
    unfold Spec.appliesLoose at happ ⊢
    rw [hf] at happ ⊢
    simp only [Bool.and_eq_true] at happ ⊢
    obtain ⟨⟨a, hr⟩, b⟩ := happ
    refine ⟨⟨a, ?_⟩, b⟩
    have hr : s.hasRoom e.platform rm' = true := hr
    show s.hasRoom e.platform rm = true
    simp only [State.hasRoom, Bool.and_eq_true, decide_eq_true_eq] at hr ⊢
    obtain ⟨⟨⟨⟨h1, h2, h3, h4, h5, h6⟩, h7⟩, h8⟩, h9⟩ := hr
    exact ⟨⟨⟨⟨by omega, by omega, by omega, by omega, by omega, h6⟩, by omega⟩, by omega⟩, h9⟩
  obtain ⟨n, o, a1, a2, a3, a4, L, ⟨b1, b2, b3⟩, b4⟩ := h p e ha hc hk s m args below hf happ2 (hP _ _ hP9) hK
  exact ⟨n, o, a1, a2, a3, hQ _ _ _ _ a4, L, ⟨b1, b2, b3.mono f5 f6⟩, b4⟩
/-- what the reference's call leaves -/
def QM (E : gE) (g : Nat → Nat) (A : Nat → Prop) (o : oT) : Array Value → State → Outcome → State → Prop := QW (some (.int o.2.1)) (fun H => ∃ M', mP E A g M' H ∧ MW E g M' o.2.2 o.1) A
def PM (E : gE) (A : Nat → Prop) (g : Nat → Nat) (M : gM) (H : Heap) : Prop := mP E A g M H ∧ ∀ q : Nat, H.size ≤ q → A q
theorem met_m {l : Launch} {E : gE} {A : Nat → Prop} {g : Nat → Nat} {M : gM} {y : MethodName} {ws : List Cond} {rm : Room} {av : List Value} {P : Heap → Prop} {k v : Int32} {σ2 : Sg} {mc ms : Nat} (h : Met l y ws rm (Pm E av P) (QW (some (.int v)) (fun H => ∃ M', mP E A g M' H ∧ MW E g M' σ2 k) A) mc ms A) (hP : ∀ H, PM E A g M H → P H) (f1 : rm.frames ≤ 30) (f2 : rm.locals ≤ 1500) (f3 : rm.cells ≤ 1) (f4 : rm.slots ≤ 8) (f5 : mc ≤ 1) (f6 : ms ≤ 8) : Met l y ws ({ frames := 30, cells := 1, slots := 8, locals := 1500 } : Room) (Pm E av (PM E A g M)) (QM E g A (k, v, σ2)) 1 8 A :=
  met_wide h (fun a s h => ⟨h.1, hP _ h.2.1, h.2.2⟩) (fun _ _ _ _ h => h) f1 f2 f3 f4 f5 f6
theorem W_furnish (l : Launch) (hl9 : l.stackTraces = false) (E : gE) (A : Nat → Prop) (g : Nat → Nat) (M : gM) (σ : Sg) (hv : VS σ) (hw : CW E g M σ) (hp : PW E M σ) (hd : CD M σ) (hX9 : VX σ) (xb xc xq : Int32) (qo : Nat) (hqo : ¬ A qo) (fo : Nat → Int64) : Met l yL_furnish wsL_furnish ({ frames := 30, cells := 4, slots := 60, locals := 1500 } : Room) (Pz E (fun q => A q ∨ q = qo) [.ref (g 0), .int xb, .int xc, .int xq, .ref qo] (PO E A g M qo fo)) (QO E g qo A (oFu σ xb xc xq)) 4 60 (fun q => A q ∨ q = qo) := by
  obtain ⟨⟨hR9, hG9, hU9, hD9⟩, -⟩ := id hv
  unfold oFu
  by_cases h1 : ((1 ≤ xb ∧ xb ≤ 6) ∧ (0 ≤ xc ∧ xc ≤ 9) ∧ (0 ≤ xq ∧ xq ≤ 100))
  · rw [if_pos h1]
    by_cases h2 : kR σ = 10
    · rw [if_pos h2]
      exact w_furnish2 l hl9 E A g M σ hv hw hp hd xb xc xq h1 h2 qo hqo fo
    · rw [if_neg h2]
      exact w_furnishOk l E A g M σ hv hw hp hd hX9 xb xc xq h1 (by omega) qo hqo fo
  · rw [if_neg h1]
    exact w_furnish1 l hl9 E A g M σ hv hw hp hd xb xc xq h1 qo hqo fo
theorem R_furnish (l : Launch) (E : gE) (A : Nat → Prop) (g : Nat → Nat) (M : gM) (σ : Sg) (th : Int32) (hv : VS σ) (hw : MW E g M σ th) (xb xc xq : Int32) : Met l yX5_furnish wsX5_furnish ({ frames := 30, cells := 1, slots := 8, locals := 1500 } : Room) (Pm E [.ref (g 0), .int xb, .int xc, .int xq] (PM E A g M)) (QM E g A (oFu σ xb xc xq)) 1 8 A := by
  obtain ⟨⟨hR9, hG9, hU9, hD9⟩, -⟩ := id hv
  unfold oFu
  by_cases h1 : ((1 ≤ xb ∧ xb ≤ 6) ∧ (0 ≤ xc ∧ xc ≤ 9) ∧ (0 ≤ xq ∧ xq ≤ 100))
  · rw [if_pos h1]
    by_cases h2 : kR σ = 10
    · rw [if_pos h2]
      exact met_m (m_furnishF l E A g M σ th hv hw xb xc xq h1 h2) (fun _ h => h.1) (by decide) (by decide) (by decide) (by decide) (by decide) (by decide)
    · rw [if_neg h2]
      exact met_m (m_furnishOk l E A g M σ th hv hw xb xc xq h1 (by omega)) (fun _ h => h) (by decide) (by decide) (by decide) (by decide) (by decide) (by decide)
  · rw [if_neg h1]
    exact met_m (m_furnishB l E A g M σ th hv hw xb xc xq h1) (fun _ h => h.1) (by decide) (by decide) (by decide) (by decide) (by decide) (by decide)
theorem W_come (l : Launch) (hl9 : l.stackTraces = false) (E : gE) (A : Nat → Prop) (g : Nat → Nat) (M : gM) (σ : Sg) (hv : VS σ) (hw : CW E g M σ) (hp : PW E M σ) (hd : CD M σ) (hX9 : VX σ) (xc xn xv : Int32) (qo : Nat) (hqo : ¬ A qo) (fo : Nat → Int64) : Met l yL_come wsL_come ({ frames := 30, cells := 4, slots := 60, locals := 1500 } : Room) (Pz E (fun q => A q ∨ q = qo) [.ref (g 0), .int xc, .int xn, .int xv, .ref qo] (PO E A g M qo fo)) (QO E g qo A (oCo σ xc xn xv)) 4 60 (fun q => A q ∨ q = qo) := by
  obtain ⟨⟨hR9, hG9, hU9, hD9⟩, -⟩ := id hv
  unfold oCo
  by_cases h1 : ((0 ≤ xc ∧ xc ≤ 1000) ∧ (1 ≤ xn ∧ xn ≤ 6) ∧ ((-9) ≤ xv ∧ xv ≤ 90))
  · rw [if_pos h1]
    by_cases h2 : kU σ = 12
    · rw [if_pos h2]
      exact w_come2 l hl9 E A g M σ hv hw hp hd xc xn xv h1 h2 qo hqo fo
    · rw [if_neg h2]
      exact w_comeOk l E A g M σ hv hw hp hd hX9 xc xn xv h1 (by omega) qo hqo fo
  · rw [if_neg h1]
    exact w_come1 l hl9 E A g M σ hv hw hp hd xc xn xv h1 qo hqo fo
theorem R_come (l : Launch) (E : gE) (A : Nat → Prop) (g : Nat → Nat) (M : gM) (σ : Sg) (th : Int32) (hv : VS σ) (hw : MW E g M σ th) (xc xn xv : Int32) : Met l yX5_come wsX5_come ({ frames := 30, cells := 1, slots := 8, locals := 1500 } : Room) (Pm E [.ref (g 0), .int xc, .int xn, .int xv] (PM E A g M)) (QM E g A (oCo σ xc xn xv)) 1 8 A := by
  obtain ⟨⟨hR9, hG9, hU9, hD9⟩, -⟩ := id hv
  unfold oCo
  by_cases h1 : ((0 ≤ xc ∧ xc ≤ 1000) ∧ (1 ≤ xn ∧ xn ≤ 6) ∧ ((-9) ≤ xv ∧ xv ≤ 90))
  · rw [if_pos h1]
    by_cases h2 : kU σ = 12
    · rw [if_pos h2]
      exact met_m (m_comeF l E A g M σ th hv hw xc xn xv h1 h2) (fun _ h => h.1) (by decide) (by decide) (by decide) (by decide) (by decide) (by decide)
    · rw [if_neg h2]
      exact met_m (m_comeOk l E A g M σ th hv hw xc xn xv h1 (by omega)) (fun _ h => h) (by decide) (by decide) (by decide) (by decide) (by decide) (by decide)
  · rw [if_neg h1]
    exact met_m (m_comeB l E A g M σ th hv hw xc xn xv h1) (fun _ h => h.1) (by decide) (by decide) (by decide) (by decide) (by decide) (by decide)
theorem W_door (l : Launch) (hl9 : l.stackTraces = false) (E : gE) (A : Nat → Prop) (g : Nat → Nat) (M : gM) (σ : Sg) (hv : VS σ) (hw : CW E g M σ) (hp : PW E M σ) (hd : CD M σ) (hX9 : VX σ) (x y : Int32) (qo : Nat) (hqo : ¬ A qo) (fo : Nat → Int64) : Met l yL_door wsL_door ({ frames := 30, cells := 4, slots := 60, locals := 1500 } : Room) (Pz E (fun q => A q ∨ q = qo) [.ref (g 0), .int x, .int y, .ref qo] (PO E A g M qo fo)) (QO E g qo A (oDr σ x y)) 4 60 (fun q => A q ∨ q = qo) := by
  obtain ⟨⟨hR9, hG9, hU9, hD9⟩, -⟩ := id hv
  unfold oDr
  by_cases h1 : (0 ≤ x ∧ x < nI (kR σ)) ∧ (0 ≤ y ∧ y < nI (kR σ))
  · rw [if_pos h1]
    obtain ⟨a, ha, rfl⟩ := ix_nat (show kR σ < 2 ^ 31 by omega) h1.1
    obtain ⟨b, hb, rfl⟩ := ix_nat (show kR σ < 2 ^ 31 by omega) h1.2
    rw [nI_clamp (show a < 2 ^ 31 by omega), nI_clamp (show b < 2 ^ 31 by omega)]
    by_cases h2 : nI a = nI b
    · rw [if_pos h2]
      have e9 := (nI_eq (by omega) (by omega)).mp h2
      subst e9
      exact w_door2 l hl9 E A g M σ hv hw hp hd a ha qo hqo fo
    · rw [if_neg h2]
      have hab : ¬ a = b := fun q => h2 (by rw [q])
      by_cases h3 : bitAt (sJn σ a) b = true
      · rw [if_pos h3]
        exact w_door0 l E A g M σ hv hw hp hd a b ha hb hab h3 qo hqo fo
      · rw [if_neg h3]
        by_cases h4 : kD σ = 20
        · rw [if_pos h4]
          exact w_door3 l hl9 E A g M σ hv hw hp hd a b ha hb hab (Bool.eq_false_iff.mpr h3) h4 qo hqo fo
        · rw [if_neg h4]
          exact w_doorOk l E A g M σ hv hw hp hd a b ha hb hab (Bool.eq_false_iff.mpr h3) (by omega) (VS.dr_ok hv ha hb (by omega)) qo hqo fo
  · rw [if_neg h1]
    exact w_door1 l hl9 E A g M σ hv hw hp hd x y h1 qo hqo fo
theorem R_door (l : Launch) (E : gE) (A : Nat → Prop) (g : Nat → Nat) (M : gM) (σ : Sg) (th : Int32) (hv : VS σ) (hw : MW E g M σ th) (x y : Int32) : Met l yX5_door wsX5_door ({ frames := 30, cells := 1, slots := 8, locals := 1500 } : Room) (Pm E [.ref (g 0), .int x, .int y] (PM E A g M)) (QM E g A (oDr σ x y)) 1 8 A := by
  obtain ⟨⟨hR9, hG9, hU9, hD9⟩, -⟩ := id hv
  unfold oDr
  by_cases h1 : (0 ≤ x ∧ x < nI (kR σ)) ∧ (0 ≤ y ∧ y < nI (kR σ))
  · rw [if_pos h1]
    obtain ⟨a, ha, rfl⟩ := ix_nat (show kR σ < 2 ^ 31 by omega) h1.1
    obtain ⟨b, hb, rfl⟩ := ix_nat (show kR σ < 2 ^ 31 by omega) h1.2
    rw [nI_clamp (show a < 2 ^ 31 by omega), nI_clamp (show b < 2 ^ 31 by omega)]
    by_cases h2 : nI a = nI b
    · rw [if_pos h2]
      have e9 := (nI_eq (by omega) (by omega)).mp h2
      subst e9
      exact met_m (m_door2 l E A g M σ th hv hw a ha) (fun _ h => h.1) (by decide) (by decide) (by decide) (by decide) (by decide) (by decide)
    · rw [if_neg h2]
      have hab : ¬ a = b := fun q => h2 (by rw [q])
      by_cases h3 : bitAt (sJn σ a) b = true
      · rw [if_pos h3]
        exact met_m (m_door0 l E A g M σ th hv hw a b ha hb hab h3) (fun _ h => h.1) (by decide) (by decide) (by decide) (by decide) (by decide) (by decide)
      · rw [if_neg h3]
        by_cases h4 : kD σ = 20
        · rw [if_pos h4]
          exact met_m (m_door3 l E A g M σ th hv hw a b ha hb hab (Bool.eq_false_iff.mpr h3) h4) (fun _ h => h.1) (by decide) (by decide) (by decide) (by decide) (by decide) (by decide)
        · rw [if_neg h4]
          exact met_m (m_doorOk l E A g M σ th hv hw a b ha hb hab (Bool.eq_false_iff.mpr h3) (by omega)) (fun _ h => h.1) (by decide) (by decide) (by decide) (by decide) (by decide) (by decide)
  · rw [if_neg h1]
    exact met_m (m_door1 l E A g M σ th hv hw x y h1) (fun _ h => h.1) (by decide) (by decide) (by decide) (by decide) (by decide) (by decide)
theorem W_haunt (l : Launch) (hl9 : l.stackTraces = false) (E : gE) (A : Nat → Prop) (g : Nat → Nat) (M : gM) (σ : Sg) (hv : VS σ) (hw : CW E g M σ) (hp : PW E M σ) (hd : CD M σ) (hX9 : VX σ) (x xf xw xb : Int32) (qo : Nat) (hqo : ¬ A qo) (fo : Nat → Int64) : Met l yL_haunt wsL_haunt ({ frames := 30, cells := 4, slots := 60, locals := 1500 } : Room) (Pz E (fun q => A q ∨ q = qo) [.ref (g 0), .int x, .int xf, .int xw, .int xb, .ref qo] (PO E A g M qo fo)) (QO E g qo A (oHa σ x xf xw xb)) 4 60 (fun q => A q ∨ q = qo) := by
  obtain ⟨⟨hR9, hG9, hU9, hD9⟩, -⟩ := id hv
  unfold oHa
  by_cases h1 : (0 ≤ x ∧ x < nI (kR σ))
  · rw [if_pos h1]
    obtain ⟨k, hk, rfl⟩ := ix_nat (show kR σ < 2 ^ 31 by omega) h1
    by_cases h2 : ((1 ≤ xf ∧ xf ≤ 9) ∧ (0 ≤ xw ∧ xw ≤ 11) ∧ xw < xb ∧ xb ≤ 12)
    · rw [if_pos h2]
      by_cases h3 : kG σ = 5
      · rw [if_pos h3]
        exact w_haunt3 l hl9 E A g M σ hv hw hp hd k hk xf xw xb h2 h3 qo hqo fo
      · rw [if_neg h3]
        obtain ⟨w, hw9, rfl⟩ := ix_nat2 (n := 11) rfl (by decide) h2.2.1
        exact w_hauntOk l E A g M σ hv hw hp hd k w hk hw9 xf xb ⟨h2.1, h2.2.2⟩ (by omega) qo hqo fo
    · rw [if_neg h2]
      exact w_haunt2 l hl9 E A g M σ hv hw hp hd k hk xf xw xb h2 qo hqo fo
  · rw [if_neg h1]
    exact w_haunt1 l hl9 E A g M σ hv hw hp hd x xf xw xb h1 qo hqo fo
theorem R_haunt (l : Launch) (E : gE) (A : Nat → Prop) (g : Nat → Nat) (M : gM) (σ : Sg) (th : Int32) (hv : VS σ) (hw : MW E g M σ th) (x xf xw xb : Int32) : Met l yX5_haunt wsX5_haunt ({ frames := 30, cells := 1, slots := 8, locals := 1500 } : Room) (Pm E [.ref (g 0), .int x, .int xf, .int xw, .int xb] (PM E A g M)) (QM E g A (oHa σ x xf xw xb)) 1 8 A := by
  obtain ⟨⟨hR9, hG9, hU9, hD9⟩, -⟩ := id hv
  unfold oHa
  by_cases h1 : (0 ≤ x ∧ x < nI (kR σ))
  · rw [if_pos h1]
    obtain ⟨k, hk, rfl⟩ := ix_nat (show kR σ < 2 ^ 31 by omega) h1
    by_cases h2 : ((1 ≤ xf ∧ xf ≤ 9) ∧ (0 ≤ xw ∧ xw ≤ 11) ∧ xw < xb ∧ xb ≤ 12)
    · rw [if_pos h2]
      by_cases h3 : kG σ = 5
      · rw [if_pos h3]
        exact met_m (m_haunt3 l E A g M σ th hv hw k hk xf xw xb h2 h3) (fun _ h => h.1) (by decide) (by decide) (by decide) (by decide) (by decide) (by decide)
      · rw [if_neg h3]
        exact met_m (m_hauntOk l E A g M σ th hv hw k hk xf xw xb h2 (by omega)) (fun _ h => h) (by decide) (by decide) (by decide) (by decide) (by decide) (by decide)
    · rw [if_neg h2]
      exact met_m (m_haunt2 l E A g M σ th hv hw k hk xf xw xb h2) (fun _ h => h.1) (by decide) (by decide) (by decide) (by decide) (by decide) (by decide)
  · rw [if_neg h1]
    exact met_m (m_haunt1 l E A g M σ th hv hw x xf xw xb h1) (fun _ h => h.1) (by decide) (by decide) (by decide) (by decide) (by decide) (by decide)
theorem W_at (l : Launch) (hl9 : l.stackTraces = false) (E : gE) (A : Nat → Prop) (g : Nat → Nat) (M : gM) (σ : Sg) (hv : VS σ) (hw : CW E g M σ) (hp : PW E M σ) (hd : CD M σ) (hX9 : VX σ) (x y : Int32) (qo : Nat) (hqo : ¬ A qo) (fo : Nat → Int64) : Met l yL_at wsL_at ({ frames := 30, cells := 4, slots := 60, locals := 1500 } : Room) (Pz E (fun q => A q ∨ q = qo) [.ref (g 0), .int x, .int y, .ref qo] (PO E A g M qo fo)) (QO E g qo A (oAt σ x y)) 4 60 (fun q => A q ∨ q = qo) := by
  obtain ⟨⟨hR9, hG9, hU9, hD9⟩, -⟩ := id hv
  unfold oAt
  by_cases h1 : (0 ≤ x ∧ x < nI (kG σ)) ∧ (0 ≤ y ∧ y ≤ 11)
  · rw [if_pos h1]
    obtain ⟨k, hk, rfl⟩ := ix_nat (show kG σ < 2 ^ 31 by omega) h1.1
    obtain ⟨w, hw9, rfl⟩ := ix_nat2 (n := 11) rfl (by decide) h1.2
    rw [nI_clamp (show k < 2 ^ 31 by omega), nI_clamp (show w < 2 ^ 31 by omega)]
    exact w_at l E A g M σ hv hw hp hd k w hk hw9 qo hqo fo
  · rw [if_neg h1]
    by_cases h2 : (0 ≤ x ∧ x < nI (kG σ))
    · obtain ⟨k, hk, rfl⟩ := ix_nat (show kG σ < 2 ^ 31 by omega) h2
      exact w_at2 l hl9 E A g M σ hv hw hp hd k hk y (fun q => h1 ⟨h2, q⟩) qo hqo fo
    · exact w_at1 l hl9 E A g M σ hv hw hp hd x y h2 qo hqo fo
theorem R_at (l : Launch) (E : gE) (A : Nat → Prop) (g : Nat → Nat) (M : gM) (σ : Sg) (th : Int32) (hv : VS σ) (hw : MW E g M σ th) (x y : Int32) : Met l yX5_at wsX5_at ({ frames := 30, cells := 1, slots := 8, locals := 1500 } : Room) (Pm E [.ref (g 0), .int x, .int y] (PM E A g M)) (QM E g A (oAt σ x y)) 1 8 A := by
  obtain ⟨⟨hR9, hG9, hU9, hD9⟩, -⟩ := id hv
  unfold oAt
  by_cases h1 : (0 ≤ x ∧ x < nI (kG σ)) ∧ (0 ≤ y ∧ y ≤ 11)
  · rw [if_pos h1]
    obtain ⟨k, hk, rfl⟩ := ix_nat (show kG σ < 2 ^ 31 by omega) h1.1
    obtain ⟨w, hw9, rfl⟩ := ix_nat2 (n := 11) rfl (by decide) h1.2
    rw [nI_clamp (show k < 2 ^ 31 by omega), nI_clamp (show w < 2 ^ 31 by omega)]
    exact met_m (m_at l E A g M σ th hv hw k w hk hw9) (fun _ h => h.1) (by decide) (by decide) (by decide) (by decide) (by decide) (by decide)
  · rw [if_neg h1]
    exact met_m (m_atB l E A g M σ th hv hw x y h1) (fun _ h => h.1) (by decide) (by decide) (by decide) (by decide) (by decide) (by decide)
theorem W_room (l : Launch) (hl9 : l.stackTraces = false) (E : gE) (A : Nat → Prop) (g : Nat → Nat) (M : gM) (σ : Sg) (hv : VS σ) (hw : CW E g M σ) (hp : PW E M σ) (hd : CD M σ) (hX9 : VX σ) (x y : Int32) (qo : Nat) (hqo : ¬ A qo) (fo : Nat → Int64) : Met l yL_room wsL_room ({ frames := 30, cells := 4, slots := 60, locals := 1500 } : Room) (Pz E (fun q => A q ∨ q = qo) [.ref (g 0), .int x, .int y, .ref qo] (PO E A g M qo fo)) (QO E g qo A (oRm σ x y)) 4 60 (fun q => A q ∨ q = qo) := by
  obtain ⟨⟨hR9, hG9, hU9, hD9⟩, -⟩ := id hv
  unfold oRm
  by_cases h1 : (0 ≤ x ∧ x < nI (kR σ)) ∧ (0 ≤ y ∧ y ≤ 5)
  · rw [if_pos h1]
    obtain ⟨k, hk, rfl⟩ := ix_nat (show kR σ < 2 ^ 31 by omega) h1.1
    obtain ⟨w, hw9, rfl⟩ := ix_nat2 (n := 5) rfl (by decide) h1.2
    rw [nI_clamp (show k < 2 ^ 31 by omega), nI_clamp (show w < 2 ^ 31 by omega)]
    exact w_room l E A g M σ hv hw hp hd k w hk hw9 qo hqo fo
  · rw [if_neg h1]
    by_cases h2 : (0 ≤ x ∧ x < nI (kR σ))
    · obtain ⟨k, hk, rfl⟩ := ix_nat (show kR σ < 2 ^ 31 by omega) h2
      exact w_room2 l hl9 E A g M σ hv hw hp hd k hk y (fun q => h1 ⟨h2, q⟩) qo hqo fo
    · exact w_room1 l hl9 E A g M σ hv hw hp hd x y h2 qo hqo fo
theorem R_room (l : Launch) (E : gE) (A : Nat → Prop) (g : Nat → Nat) (M : gM) (σ : Sg) (th : Int32) (hv : VS σ) (hw : MW E g M σ th) (x y : Int32) : Met l yX5_room wsX5_room ({ frames := 30, cells := 1, slots := 8, locals := 1500 } : Room) (Pm E [.ref (g 0), .int x, .int y] (PM E A g M)) (QM E g A (oRm σ x y)) 1 8 A := by
  obtain ⟨⟨hR9, hG9, hU9, hD9⟩, -⟩ := id hv
  unfold oRm
  by_cases h1 : (0 ≤ x ∧ x < nI (kR σ)) ∧ (0 ≤ y ∧ y ≤ 5)
  · rw [if_pos h1]
    obtain ⟨k, hk, rfl⟩ := ix_nat (show kR σ < 2 ^ 31 by omega) h1.1
    obtain ⟨w, hw9, rfl⟩ := ix_nat2 (n := 5) rfl (by decide) h1.2
    rw [nI_clamp (show k < 2 ^ 31 by omega), nI_clamp (show w < 2 ^ 31 by omega)]
    exact met_m (m_room l E A g M σ th hv hw k w hk hw9) (fun _ h => h.1) (by decide) (by decide) (by decide) (by decide) (by decide) (by decide)
  · rw [if_neg h1]
    exact met_m (m_roomB l E A g M σ th hv hw x y h1) (fun _ h => h.1) (by decide) (by decide) (by decide) (by decide) (by decide) (by decide)
theorem W_guest (l : Launch) (hl9 : l.stackTraces = false) (E : gE) (A : Nat → Prop) (g : Nat → Nat) (M : gM) (σ : Sg) (hv : VS σ) (hw : CW E g M σ) (hp : PW E M σ) (hd : CD M σ) (hX9 : VX σ) (x y : Int32) (qo : Nat) (hqo : ¬ A qo) (fo : Nat → Int64) : Met l yL_guest wsL_guest ({ frames := 30, cells := 4, slots := 60, locals := 1500 } : Room) (Pz E (fun q => A q ∨ q = qo) [.ref (g 0), .int x, .int y, .ref qo] (PO E A g M qo fo)) (QO E g qo A (oGu σ x y)) 4 60 (fun q => A q ∨ q = qo) := by
  obtain ⟨⟨hR9, hG9, hU9, hD9⟩, -⟩ := id hv
  unfold oGu
  by_cases h1 : (0 ≤ x ∧ x < nI (kU σ)) ∧ (0 ≤ y ∧ y ≤ 6)
  · rw [if_pos h1]
    obtain ⟨k, hk, rfl⟩ := ix_nat (show kU σ < 2 ^ 31 by omega) h1.1
    obtain ⟨w, hw9, rfl⟩ := ix_nat2 (n := 6) rfl (by decide) h1.2
    rw [nI_clamp (show k < 2 ^ 31 by omega), nI_clamp (show w < 2 ^ 31 by omega)]
    exact w_guest l E A g M σ hv hw hp hd k w hk hw9 qo hqo fo
  · rw [if_neg h1]
    by_cases h2 : (0 ≤ x ∧ x < nI (kU σ))
    · obtain ⟨k, hk, rfl⟩ := ix_nat (show kU σ < 2 ^ 31 by omega) h2
      exact w_guest2 l hl9 E A g M σ hv hw hp hd k hk y (fun q => h1 ⟨h2, q⟩) qo hqo fo
    · exact w_guest1 l hl9 E A g M σ hv hw hp hd x y h2 qo hqo fo
theorem R_guest (l : Launch) (E : gE) (A : Nat → Prop) (g : Nat → Nat) (M : gM) (σ : Sg) (th : Int32) (hv : VS σ) (hw : MW E g M σ th) (x y : Int32) : Met l yX5_guest wsX5_guest ({ frames := 30, cells := 1, slots := 8, locals := 1500 } : Room) (Pm E [.ref (g 0), .int x, .int y] (PM E A g M)) (QM E g A (oGu σ x y)) 1 8 A := by
  obtain ⟨⟨hR9, hG9, hU9, hD9⟩, -⟩ := id hv
  unfold oGu
  by_cases h1 : (0 ≤ x ∧ x < nI (kU σ)) ∧ (0 ≤ y ∧ y ≤ 6)
  · rw [if_pos h1]
    obtain ⟨k, hk, rfl⟩ := ix_nat (show kU σ < 2 ^ 31 by omega) h1.1
    obtain ⟨w, hw9, rfl⟩ := ix_nat2 (n := 6) rfl (by decide) h1.2
    rw [nI_clamp (show k < 2 ^ 31 by omega), nI_clamp (show w < 2 ^ 31 by omega)]
    exact met_m (m_guest l E A g M σ th hv hw k w hk hw9) (fun _ h => h.1) (by decide) (by decide) (by decide) (by decide) (by decide) (by decide)
  · rw [if_neg h1]
    exact met_m (m_guestB l E A g M σ th hv hw x y h1) (fun _ h => h.1) (by decide) (by decide) (by decide) (by decide) (by decide) (by decide)
theorem W_wins (l : Launch) (hl9 : l.stackTraces = false) (E : gE) (A : Nat → Prop) (g : Nat → Nat) (M : gM) (σ : Sg) (hv : VS σ) (hw : CW E g M σ) (hp : PW E M σ) (hd : CD M σ) (hX9 : VX σ) (x y : Int32) (qo : Nat) (hqo : ¬ A qo) (fo : Nat → Int64) : Met l yL_wins wsL_wins ({ frames := 30, cells := 4, slots := 60, locals := 1500 } : Room) (Pz E (fun q => A q ∨ q = qo) [.ref (g 0), .int x, .int y, .ref qo] (PO E A g M qo fo)) (QO E g qo A (oWi σ x y)) 4 60 (fun q => A q ∨ q = qo) := by
  obtain ⟨⟨hR9, hG9, hU9, hD9⟩, -⟩ := id hv
  unfold oWi
  by_cases h1 : (0 ≤ x ∧ x < nI (kR σ)) ∧ (0 ≤ y ∧ y ≤ 2)
  · rw [if_pos h1]
    obtain ⟨k, hk, rfl⟩ := ix_nat (show kR σ < 2 ^ 31 by omega) h1.1
    obtain ⟨w, hw9, rfl⟩ := ix_nat2 (n := 2) rfl (by decide) h1.2
    rw [nI_clamp (show k < 2 ^ 31 by omega), nI_clamp (show w < 2 ^ 31 by omega)]
    exact w_wins l E A g M σ hv hw hp hd k w hk hw9 qo hqo fo
  · rw [if_neg h1]
    by_cases h2 : (0 ≤ x ∧ x < nI (kR σ))
    · obtain ⟨k, hk, rfl⟩ := ix_nat (show kR σ < 2 ^ 31 by omega) h2
      exact w_wins2 l hl9 E A g M σ hv hw hp hd k hk y (fun q => h1 ⟨h2, q⟩) qo hqo fo
    · exact w_wins1 l hl9 E A g M σ hv hw hp hd x y h2 qo hqo fo
theorem R_wins (l : Launch) (E : gE) (A : Nat → Prop) (g : Nat → Nat) (M : gM) (σ : Sg) (th : Int32) (hv : VS σ) (hw : MW E g M σ th) (x y : Int32) : Met l yX5_wins wsX5_wins ({ frames := 30, cells := 1, slots := 8, locals := 1500 } : Room) (Pm E [.ref (g 0), .int x, .int y] (PM E A g M)) (QM E g A (oWi σ x y)) 1 8 A := by
  obtain ⟨⟨hR9, hG9, hU9, hD9⟩, -⟩ := id hv
  unfold oWi
  by_cases h1 : (0 ≤ x ∧ x < nI (kR σ)) ∧ (0 ≤ y ∧ y ≤ 2)
  · rw [if_pos h1]
    obtain ⟨k, hk, rfl⟩ := ix_nat (show kR σ < 2 ^ 31 by omega) h1.1
    obtain ⟨w, hw9, rfl⟩ := ix_nat2 (n := 2) rfl (by decide) h1.2
    rw [nI_clamp (show k < 2 ^ 31 by omega), nI_clamp (show w < 2 ^ 31 by omega)]
    exact met_m (m_wins l E A g M σ th hv hw k w hk hw9) (fun _ h => h.1) (by decide) (by decide) (by decide) (by decide) (by decide) (by decide)
  · rw [if_neg h1]
    exact met_m (m_winsB l E A g M σ th hv hw x y h1) (fun _ h => h.1) (by decide) (by decide) (by decide) (by decide) (by decide) (by decide)
theorem m1_ge {y : Int32} (h : -1 ≤ y) (h2 : ¬ y = -1) : 0 ≤ y := by
  rw [Int32.le_iff_toInt_le] at h ⊢
  rw [← Int32.toInt_inj] at h2
  have e : (-1 : Int32).toInt = -1 := rfl
  have e0 : (0 : Int32).toInt = 0 := rfl
  rw [e] at h h2
  rw [e0]
  omega
theorem W_haunting (l : Launch) (hl9 : l.stackTraces = false) (E : gE) (A : Nat → Prop) (g : Nat → Nat) (M : gM) (σ : Sg) (hv : VS σ) (hw : CW E g M σ) (hp : PW E M σ) (hd : CD M σ) (hX9 : VX σ) (x y : Int32) (qo : Nat) (hqo : ¬ A qo) (fo : Nat → Int64) : Met l yL_haunting wsL_haunting ({ frames := 30, cells := 4, slots := 60, locals := 1500 } : Room) (Pz E (fun q => A q ∨ q = qo) [.ref (g 0), .int x, .int y, .ref qo] (PO E A g M qo fo)) (QO E g qo A (oHg σ x y)) 4 60 (fun q => A q ∨ q = qo) := by
  obtain ⟨⟨hR9, hG9, hU9, hD9⟩, -⟩ := id hv
  unfold oHg
  by_cases h1 : (0 ≤ x ∧ x < nI (kR σ)) ∧ (-1 ≤ y ∧ y ≤ 11)
  · rw [if_pos h1]
    obtain ⟨k, hk, rfl⟩ := ix_nat (show kR σ < 2 ^ 31 by omega) h1.1
    by_cases h3 : y = -1
    · subst h3
      rw [if_pos rfl]
      exact w_hauntingN l E A g M σ hv hw hp hd k hk qo hqo fo
    · rw [if_neg h3]
      obtain ⟨w, hw9, rfl⟩ := ix_nat2 (n := 11) rfl (by decide) ⟨m1_ge h1.2.1 h3, h1.2.2⟩
      rw [nI_clamp (show w < 2 ^ 31 by omega)]
      exact w_hauntingH l E A g M σ hv hw hp hd k w hk hw9 qo hqo fo
  · rw [if_neg h1]
    by_cases h2 : (0 ≤ x ∧ x < nI (kR σ))
    · obtain ⟨k, hk, rfl⟩ := ix_nat (show kR σ < 2 ^ 31 by omega) h2
      exact w_haunting2 l hl9 E A g M σ hv hw hp hd k hk y (fun q => h1 ⟨h2, q⟩) qo hqo fo
    · exact w_haunting1 l hl9 E A g M σ hv hw hp hd x y h2 qo hqo fo
theorem R_haunting (l : Launch) (E : gE) (A : Nat → Prop) (g : Nat → Nat) (M : gM) (σ : Sg) (th : Int32) (hv : VS σ) (hw : MW E g M σ th) (x y : Int32) : Met l yX5_haunting wsX5_haunting ({ frames := 30, cells := 1, slots := 8, locals := 1500 } : Room) (Pm E [.ref (g 0), .int x, .int y] (PM E A g M)) (QM E g A (oHg σ x y)) 1 8 A := by
  obtain ⟨⟨hR9, hG9, hU9, hD9⟩, -⟩ := id hv
  unfold oHg
  by_cases h1 : (0 ≤ x ∧ x < nI (kR σ)) ∧ (-1 ≤ y ∧ y ≤ 11)
  · rw [if_pos h1]
    obtain ⟨k, hk, rfl⟩ := ix_nat (show kR σ < 2 ^ 31 by omega) h1.1
    by_cases h3 : y = -1
    · subst h3
      rw [if_pos rfl]
      exact met_m (m_haunting1 l E A g M σ th hv hw k hk) (fun _ h => h.1) (by decide) (by decide) (by decide) (by decide) (by decide) (by decide)
    · rw [if_neg h3]
      obtain ⟨w, hw9, rfl⟩ := ix_nat2 (n := 11) rfl (by decide) ⟨m1_ge h1.2.1 h3, h1.2.2⟩
      rw [nI_clamp (show w < 2 ^ 31 by omega)]
      exact met_m (m_haunting2 l E A g M σ th hv hw k w hk hw9) (fun _ h => h.1) (by decide) (by decide) (by decide) (by decide) (by decide) (by decide)
  · rw [if_neg h1]
    exact met_m (m_hauntingB l E A g M σ th hv hw x y h1) (fun _ h => h.1) (by decide) (by decide) (by decide) (by decide) (by decide) (by decide)
theorem W_count (l : Launch) (hl9 : l.stackTraces = false) (E : gE) (A : Nat → Prop) (g : Nat → Nat) (M : gM) (σ : Sg) (hv : VS σ) (hw : CW E g M σ) (hp : PW E M σ) (hd : CD M σ) (hX9 : VX σ) (y : Int32) (qo : Nat) (hqo : ¬ A qo) (fo : Nat → Int64) : Met l yL_count wsL_count ({ frames := 30, cells := 4, slots := 60, locals := 1500 } : Room) (Pz E (fun q => A q ∨ q = qo) [.ref (g 0), .int y, .ref qo] (PO E A g M qo fo)) (QO E g qo A (oCt σ y)) 4 60 (fun q => A q ∨ q = qo) := by
  obtain ⟨⟨hR9, hG9, hU9, hD9⟩, -⟩ := id hv
  unfold oCt
  by_cases h1 : 0 ≤ y ∧ y ≤ 8
  · rw [if_pos h1]
    obtain ⟨w, hw9, rfl⟩ := ix_nat2 (n := 8) rfl (by decide) h1
    rw [nI_clamp (show w < 2 ^ 31 by omega)]
    exact w_count l E A g M σ hv hw hp hd w hw9 qo hqo fo
  · rw [if_neg h1]
    exact w_count1 l hl9 E A g M σ hv hw hp hd y h1 qo hqo fo
theorem R_count (l : Launch) (E : gE) (A : Nat → Prop) (g : Nat → Nat) (M : gM) (σ : Sg) (th : Int32) (hv : VS σ) (hw : MW E g M σ th) (y : Int32) : Met l yX5_count wsX5_count ({ frames := 30, cells := 1, slots := 8, locals := 1500 } : Room) (Pm E [.ref (g 0), .int y] (PM E A g M)) (QM E g A (oCt σ y)) 1 8 A := by
  obtain ⟨⟨hR9, hG9, hU9, hD9⟩, -⟩ := id hv
  unfold oCt
  by_cases h1 : 0 ≤ y ∧ y ≤ 8
  · rw [if_pos h1]
    obtain ⟨w, hw9, rfl⟩ := ix_nat2 (n := 8) rfl (by decide) h1
    rw [nI_clamp (show w < 2 ^ 31 by omega)]
    exact met_m (m_count l E A g M σ th hv hw w hw9) (fun _ h => h.1) (by decide) (by decide) (by decide) (by decide) (by decide) (by decide)
  · rw [if_neg h1]
    exact met_m (m_countB l E A g M σ th hv hw y h1) (fun _ h => h.1) (by decide) (by decide) (by decide) (by decide) (by decide) (by decide)
theorem W_bid (l : Launch) (hl9 : l.stackTraces = false) (E : gE) (A : Nat → Prop) (g : Nat → Nat) (M : gM) (σ : Sg) (hv : VS σ) (hw : CW E g M σ) (hp : PW E M σ) (hd : CD M σ) (hX9 : VX σ) (x y z : Int32) (qo : Nat) (hqo : ¬ A qo) (fo : Nat → Int64) : Met l yL_bid wsL_bid ({ frames := 30, cells := 4, slots := 60, locals := 1500 } : Room) (Pz E (fun q => A q ∨ q = qo) [.ref (g 0), .int x, .int y, .int z, .ref qo] (PO E A g M qo fo)) (QO E g qo A (oBd σ x y z)) 4 60 (fun q => A q ∨ q = qo) := by
  obtain ⟨⟨hR9, hG9, hU9, hD9⟩, -⟩ := id hv
  unfold oBd
  by_cases h1 : (0 ≤ x ∧ x < nI (kU σ)) ∧ (0 ≤ y ∧ y < nI (kR σ))
  · rw [if_pos h1]
    obtain ⟨u, hu, rfl⟩ := ix_nat (show kU σ < 2 ^ 31 by omega) h1.1
    obtain ⟨k, hk, rfl⟩ := ix_nat (show kR σ < 2 ^ 31 by omega) h1.2
    rw [nI_clamp (show u < 2 ^ 31 by omega), nI_clamp (show k < 2 ^ 31 by omega)]
    by_cases h2 : 1 ≤ z ∧ z ≤ 200
    · rw [if_pos h2]
      exact w_bidOk l E A g M σ hv hw hp hd u k hu hk z h2 (VS.bi_ok hv hk h2) qo hqo fo
    · rw [if_neg h2]
      exact w_bid3 l hl9 E A g M σ hv hw hp hd u k hu hk z h2 qo hqo fo
  · rw [if_neg h1]
    by_cases h2 : (0 ≤ x ∧ x < nI (kU σ))
    · obtain ⟨u, hu, rfl⟩ := ix_nat (show kU σ < 2 ^ 31 by omega) h2
      exact w_bid2 l hl9 E A g M σ hv hw hp hd u hu y z (fun q => h1 ⟨h2, q⟩) qo hqo fo
    · exact w_bid1 l hl9 E A g M σ hv hw hp hd x y z h2 qo hqo fo
theorem R_bid (l : Launch) (E : gE) (A : Nat → Prop) (g : Nat → Nat) (M : gM) (σ : Sg) (th : Int32) (hv : VS σ) (hw : MW E g M σ th) (x y z : Int32) : Met l yX5_bid wsX5_bid ({ frames := 30, cells := 1, slots := 8, locals := 1500 } : Room) (Pm E [.ref (g 0), .int x, .int y, .int z] (PM E A g M)) (QM E g A (oBd σ x y z)) 1 8 A := by
  obtain ⟨⟨hR9, hG9, hU9, hD9⟩, -⟩ := id hv
  unfold oBd
  by_cases h1 : (0 ≤ x ∧ x < nI (kU σ)) ∧ (0 ≤ y ∧ y < nI (kR σ))
  · rw [if_pos h1]
    obtain ⟨u, hu, rfl⟩ := ix_nat (show kU σ < 2 ^ 31 by omega) h1.1
    obtain ⟨k, hk, rfl⟩ := ix_nat (show kR σ < 2 ^ 31 by omega) h1.2
    rw [nI_clamp (show u < 2 ^ 31 by omega), nI_clamp (show k < 2 ^ 31 by omega)]
    by_cases h2 : 1 ≤ z ∧ z ≤ 200
    · rw [if_pos h2]
      exact met_m (m_bidOk l E A g M σ th hv hw u k hu hk z h2 (VS.bi_ok hv hk h2)) (fun _ h => h.1) (by decide) (by decide) (by decide) (by decide) (by decide) (by decide)
    · rw [if_neg h2]
      exact met_m (m_bid2 l E A g M σ th hv hw u k hu hk z h2) (fun _ h => h.1) (by decide) (by decide) (by decide) (by decide) (by decide) (by decide)
  · rw [if_neg h1]
    exact met_m (m_bid1 l E A g M σ th hv hw x y z h1) (fun _ h => h.1) (by decide) (by decide) (by decide) (by decide) (by decide) (by decide)
theorem W_leave (l : Launch) (hl9 : l.stackTraces = false) (E : gE) (A : Nat → Prop) (g : Nat → Nat) (M : gM) (σ : Sg) (hv : VS σ) (hw : CW E g M σ) (hp : PW E M σ) (hd : CD M σ) (hX9 : VX σ) (x : Int32) (qo : Nat) (hqo : ¬ A qo) (fo : Nat → Int64) : Met l yL_leave wsL_leave ({ frames := 30, cells := 4, slots := 60, locals := 1500 } : Room) (Pz E (fun q => A q ∨ q = qo) [.ref (g 0), .int x, .ref qo] (PO E A g M qo fo)) (QO E g qo A (oLe σ x)) 4 60 (fun q => A q ∨ q = qo) := by
  obtain ⟨⟨hR9, hG9, hU9, hD9⟩, -⟩ := id hv
  unfold oLe
  by_cases h1 : (0 ≤ x ∧ x < nI (kU σ))
  · rw [if_pos h1]
    obtain ⟨u, hu, rfl⟩ := ix_nat (show kU σ < 2 ^ 31 by omega) h1
    rw [nI_clamp (show u < 2 ^ 31 by omega)]
    exact w_leaveOk l E A g M σ hv hw hp hd u hu qo hqo fo
  · rw [if_neg h1]
    exact w_leave1 l hl9 E A g M σ hv hw hp hd x h1 qo hqo fo
theorem R_leave (l : Launch) (E : gE) (A : Nat → Prop) (g : Nat → Nat) (M : gM) (σ : Sg) (th : Int32) (hv : VS σ) (hw : MW E g M σ th) (x : Int32) : Met l yX5_leave wsX5_leave ({ frames := 30, cells := 1, slots := 8, locals := 1500 } : Room) (Pm E [.ref (g 0), .int x] (PM E A g M)) (QM E g A (oLe σ x)) 1 8 A := by
  obtain ⟨⟨hR9, hG9, hU9, hD9⟩, -⟩ := id hv
  unfold oLe
  by_cases h1 : (0 ≤ x ∧ x < nI (kU σ))
  · rw [if_pos h1]
    obtain ⟨u, hu, rfl⟩ := ix_nat (show kU σ < 2 ^ 31 by omega) h1
    rw [nI_clamp (show u < 2 ^ 31 by omega)]
    exact met_m (m_leave l E A g M σ th hv hw u hu) (fun _ h => h.1) (by decide) (by decide) (by decide) (by decide) (by decide) (by decide)
  · rw [if_neg h1]
    exact met_m (m_leaveB l E A g M σ th hv hw x h1) (fun _ h => h.1) (by decide) (by decide) (by decide) (by decide) (by decide) (by decide)
theorem W_best (l : Launch) (hl9 : l.stackTraces = false) (E : gE) (A : Nat → Prop) (g : Nat → Nat) (M : gM) (σ : Sg) (hv : VS σ) (hw : CW E g M σ) (hp : PW E M σ) (hd : CD M σ) (hX9 : VX σ) (x : Int32) (qo : Nat) (hqo : ¬ A qo) (fo : Nat → Int64) : Met l yL_best wsL_best ({ frames := 30, cells := 4, slots := 60, locals := 1500 } : Room) (Pz E (fun q => A q ∨ q = qo) [.ref (g 0), .int x, .ref qo] (PO E A g M qo fo)) (QO E g qo A (oBe σ x)) 4 60 (fun q => A q ∨ q = qo) := by
  obtain ⟨⟨hR9, hG9, hU9, hD9⟩, -⟩ := id hv
  unfold oBe
  by_cases h1 : (0 ≤ x ∧ x < nI (kU σ))
  · rw [if_pos h1]
    obtain ⟨u, hu, rfl⟩ := ix_nat (show kU σ < 2 ^ 31 by omega) h1
    rw [nI_clamp (show u < 2 ^ 31 by omega)]
    exact w_best l E A g M σ hv hw hp hd u hu qo hqo fo
  · rw [if_neg h1]
    exact w_best1 l hl9 E A g M σ hv hw hp hd x h1 qo hqo fo
theorem R_best (l : Launch) (E : gE) (A : Nat → Prop) (g : Nat → Nat) (M : gM) (σ : Sg) (th : Int32) (hv : VS σ) (hw : MW E g M σ th) (x : Int32) : Met l yX5_best wsX5_best ({ frames := 30, cells := 1, slots := 8, locals := 1500 } : Room) (Pm E [.ref (g 0), .int x] (PM E A g M)) (QM E g A (oBe σ x)) 1 8 A := by
  obtain ⟨⟨hR9, hG9, hU9, hD9⟩, -⟩ := id hv
  unfold oBe
  by_cases h1 : (0 ≤ x ∧ x < nI (kU σ))
  · rw [if_pos h1]
    obtain ⟨u, hu, rfl⟩ := ix_nat (show kU σ < 2 ^ 31 by omega) h1
    rw [nI_clamp (show u < 2 ^ 31 by omega)]
    exact met_m (m_best l E A g M σ th hv hw u hu) (fun _ h => h.1) (by decide) (by decide) (by decide) (by decide) (by decide) (by decide)
  · rw [if_neg h1]
    exact met_m (m_bestB l E A g M σ th hv hw x h1) (fun _ h => h.1) (by decide) (by decide) (by decide) (by decide) (by decide) (by decide)
theorem W_scares (l : Launch) (hl9 : l.stackTraces = false) (E : gE) (A : Nat → Prop) (g : Nat → Nat) (M : gM) (σ : Sg) (hv : VS σ) (hw : CW E g M σ) (hp : PW E M σ) (hd : CD M σ) (hX9 : VX σ) (x : Int32) (qo : Nat) (hqo : ¬ A qo) (fo : Nat → Int64) : Met l yL_scares wsL_scares ({ frames := 30, cells := 4, slots := 60, locals := 1500 } : Room) (Pz E (fun q => A q ∨ q = qo) [.ref (g 0), .int x, .ref qo] (PO E A g M qo fo)) (QO E g qo A (oSc σ x)) 4 60 (fun q => A q ∨ q = qo) := by
  obtain ⟨⟨hR9, hG9, hU9, hD9⟩, -⟩ := id hv
  unfold oSc
  by_cases h1 : (0 ≤ x ∧ x < nI (kG σ))
  · rw [if_pos h1]
    obtain ⟨u, hu, rfl⟩ := ix_nat (show kG σ < 2 ^ 31 by omega) h1
    exact w_scares l E A g M σ hv hw hp hd u hu qo hqo fo
  · rw [if_neg h1]
    exact w_scares1 l hl9 E A g M σ hv hw hp hd x h1 qo hqo fo
theorem R_scares (l : Launch) (E : gE) (A : Nat → Prop) (g : Nat → Nat) (M : gM) (σ : Sg) (th : Int32) (hv : VS σ) (hw : MW E g M σ th) (x : Int32) : Met l yX5_scares wsX5_scares ({ frames := 30, cells := 1, slots := 8, locals := 1500 } : Room) (Pm E [.ref (g 0), .int x] (PM E A g M)) (QM E g A (oSc σ x)) 1 8 A := by
  obtain ⟨⟨hR9, hG9, hU9, hD9⟩, -⟩ := id hv
  unfold oSc
  by_cases h1 : (0 ≤ x ∧ x < nI (kG σ))
  · rw [if_pos h1]
    obtain ⟨u, hu, rfl⟩ := ix_nat (show kG σ < 2 ^ 31 by omega) h1
    exact met_m (m_scares l E A g M σ th hv hw u hu) (fun _ h => h.1) (by decide) (by decide) (by decide) (by decide) (by decide) (by decide)
  · rw [if_neg h1]
    exact met_m (m_scaresB l E A g M σ th hv hw x h1) (fun _ h => h.1) (by decide) (by decide) (by decide) (by decide) (by decide) (by decide)
theorem VX.le_ok {σ : Sg} (hx : VX σ) (u : Nat) : VX (uU (uU σ u 3 (-1)) u 4 0) := fun i hi => hx i hi
theorem VX.bi_ok {σ : Sg} (hx : VX σ) (u k : Nat) (z : Int32) : VX (biS σ u k z) := fun i hi => hx i hi
theorem VX.co_ok {σ : Sg} (hx : VX σ) (a b c : Int32) : VX (coS σ a b c) := fun i hi => hx i hi
theorem VX.ha_ok {σ : Sg} (hx : VX σ) (a b c d : Int32) : VX (haS σ a b c d) := fun i hi => hx i hi
def VY (σ : Sg) : Prop := VS σ ∧ VX σ
theorem Y_furnish {σ : Sg} (h : VY σ) (xb xc xq : Int32) : VY (oFu σ xb xc xq).2.2 := by
  obtain ⟨hv, hx⟩ := id h
  obtain ⟨⟨hR9, hG9, hU9, hD9⟩, -⟩ := id hv
  unfold oFu
  by_cases h1 : ((1 ≤ xb ∧ xb ≤ 6) ∧ (0 ≤ xc ∧ xc ≤ 9) ∧ (0 ≤ xq ∧ xq ≤ 100))
  · rw [if_pos h1]
    by_cases h2 : kR σ = 10
    · rw [if_pos h2]
      exact h
    · rw [if_neg h2]
      exact ⟨VS.fu_ok hv (by omega) h1.2.1, VX.fu_ok hx _ _ _⟩
  · rw [if_neg h1]
    exact h
theorem Y_come {σ : Sg} (h : VY σ) (xc xn xv : Int32) : VY (oCo σ xc xn xv).2.2 := by
  obtain ⟨hv, hx⟩ := id h
  obtain ⟨⟨hR9, hG9, hU9, hD9⟩, -⟩ := id hv
  unfold oCo
  by_cases h1 : ((0 ≤ xc ∧ xc ≤ 1000) ∧ (1 ≤ xn ∧ xn ≤ 6) ∧ ((-9) ≤ xv ∧ xv ≤ 90))
  · rw [if_pos h1]
    by_cases h2 : kU σ = 12
    · rw [if_pos h2]
      exact h
    · rw [if_neg h2]
      exact ⟨VS.co_ok hv (by omega) _ _ _, VX.co_ok hx _ _ _⟩
  · rw [if_neg h1]
    exact h
theorem Y_door {σ : Sg} (h : VY σ) (x y : Int32) : VY (oDr σ x y).2.2 := by
  obtain ⟨hv, hx⟩ := id h
  obtain ⟨⟨hR9, hG9, hU9, hD9⟩, -⟩ := id hv
  unfold oDr
  by_cases h1 : (0 ≤ x ∧ x < nI (kR σ)) ∧ (0 ≤ y ∧ y < nI (kR σ))
  · rw [if_pos h1]
    obtain ⟨a, ha, rfl⟩ := ix_nat (show kR σ < 2 ^ 31 by omega) h1.1
    obtain ⟨b, hb, rfl⟩ := ix_nat (show kR σ < 2 ^ 31 by omega) h1.2
    rw [nI_clamp (show a < 2 ^ 31 by omega), nI_clamp (show b < 2 ^ 31 by omega)]
    by_cases h2 : nI a = nI b
    · rw [if_pos h2]
      exact h
    · rw [if_neg h2]
      by_cases h3 : bitAt (sJn σ a) b = true
      · rw [if_pos h3]
        exact h
      · rw [if_neg h3]
        by_cases h4 : kD σ = 20
        · rw [if_pos h4]
          exact h
        · rw [if_neg h4]
          exact ⟨VS.dr_ok hv ha hb (by omega), VX.dr_ok hx ha hb⟩
  · rw [if_neg h1]
    exact h
theorem Y_haunt {σ : Sg} (h : VY σ) (x xf xw xb : Int32) : VY (oHa σ x xf xw xb).2.2 := by
  obtain ⟨hv, hx⟩ := id h
  obtain ⟨⟨hR9, hG9, hU9, hD9⟩, -⟩ := id hv
  unfold oHa
  by_cases h1 : (0 ≤ x ∧ x < nI (kR σ))
  · rw [if_pos h1]
    obtain ⟨k, hk, rfl⟩ := ix_nat (show kR σ < 2 ^ 31 by omega) h1
    by_cases h2 : ((1 ≤ xf ∧ xf ≤ 9) ∧ (0 ≤ xw ∧ xw ≤ 11) ∧ xw < xb ∧ xb ≤ 12)
    · rw [if_pos h2]
      by_cases h3 : kG σ = 5
      · rw [if_pos h3]
        exact h
      · rw [if_neg h3]
        exact ⟨VS.ha_ok hv (by omega) hk h2.2.1, VX.ha_ok hx _ _ _ _⟩
    · rw [if_neg h2]
      exact h
  · rw [if_neg h1]
    exact h
theorem Y_at {σ : Sg} (h : VY σ) (x y : Int32) : VY (oAt σ x y).2.2 := by
  obtain ⟨hv, hx⟩ := id h
  obtain ⟨⟨hR9, hG9, hU9, hD9⟩, -⟩ := id hv
  unfold oAt
  split <;> exact h
theorem Y_room {σ : Sg} (h : VY σ) (x y : Int32) : VY (oRm σ x y).2.2 := by
  obtain ⟨hv, hx⟩ := id h
  obtain ⟨⟨hR9, hG9, hU9, hD9⟩, -⟩ := id hv
  unfold oRm
  split <;> exact h
theorem Y_guest {σ : Sg} (h : VY σ) (x y : Int32) : VY (oGu σ x y).2.2 := by
  obtain ⟨hv, hx⟩ := id h
  obtain ⟨⟨hR9, hG9, hU9, hD9⟩, -⟩ := id hv
  unfold oGu
  split <;> exact h
theorem Y_wins {σ : Sg} (h : VY σ) (x y : Int32) : VY (oWi σ x y).2.2 := by
  obtain ⟨hv, hx⟩ := id h
  obtain ⟨⟨hR9, hG9, hU9, hD9⟩, -⟩ := id hv
  unfold oWi
  split <;> exact h
theorem Y_haunting {σ : Sg} (h : VY σ) (x y : Int32) : VY (oHg σ x y).2.2 := by
  obtain ⟨hv, hx⟩ := id h
  obtain ⟨⟨hR9, hG9, hU9, hD9⟩, -⟩ := id hv
  unfold oHg
  split <;> exact h
theorem Y_count {σ : Sg} (h : VY σ) (y : Int32) : VY (oCt σ y).2.2 := by
  obtain ⟨hv, hx⟩ := id h
  obtain ⟨⟨hR9, hG9, hU9, hD9⟩, -⟩ := id hv
  unfold oCt
  split <;> exact h
theorem Y_best {σ : Sg} (h : VY σ) (x : Int32) : VY (oBe σ x).2.2 := by
  obtain ⟨hv, hx⟩ := id h
  obtain ⟨⟨hR9, hG9, hU9, hD9⟩, -⟩ := id hv
  unfold oBe
  split <;> exact h
theorem Y_scares {σ : Sg} (h : VY σ) (x : Int32) : VY (oSc σ x).2.2 := by
  obtain ⟨hv, hx⟩ := id h
  obtain ⟨⟨hR9, hG9, hU9, hD9⟩, -⟩ := id hv
  unfold oSc
  split <;> exact h
theorem Y_bid {σ : Sg} (h : VY σ) (x y z : Int32) : VY (oBd σ x y z).2.2 := by
  obtain ⟨hv, hx⟩ := id h
  obtain ⟨⟨hR9, hG9, hU9, hD9⟩, -⟩ := id hv
  unfold oBd
  by_cases h1 : (0 ≤ x ∧ x < nI (kU σ)) ∧ (0 ≤ y ∧ y < nI (kR σ))
  · rw [if_pos h1]
    obtain ⟨u, hu, rfl⟩ := ix_nat (show kU σ < 2 ^ 31 by omega) h1.1
    obtain ⟨k, hk, rfl⟩ := ix_nat (show kR σ < 2 ^ 31 by omega) h1.2
    rw [nI_clamp (show u < 2 ^ 31 by omega), nI_clamp (show k < 2 ^ 31 by omega)]
    by_cases h2 : 1 ≤ z ∧ z ≤ 200
    · rw [if_pos h2]
      exact ⟨VS.bi_ok hv hk h2, VX.bi_ok hx _ _ _⟩
    · rw [if_neg h2]
      exact h
  · rw [if_neg h1]
    exact h
theorem Y_leave {σ : Sg} (h : VY σ) (x : Int32) : VY (oLe σ x).2.2 := by
  obtain ⟨hv, hx⟩ := id h
  obtain ⟨⟨hR9, hG9, hU9, hD9⟩, -⟩ := id hv
  unfold oLe
  split
  · exact ⟨VS.drop hv _, VX.le_ok hx _⟩
  · exact h
