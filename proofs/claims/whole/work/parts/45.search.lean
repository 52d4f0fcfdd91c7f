/-! MOST: WHAT THE SEARCH DOES -/
def aq (a : Int32) (q : Nat) : Prop := ¬ a &&& (1 <<< (nI q &&& 31)) = 0
theorem bit_ne : ∀ q, q < 10 → ¬ ((1 : Int32) <<< (nI q &&& 31)) = 0 := by decide +kernel
theorem bit_and : ∀ r, r < 10 → ∀ q, q < 10 → ((1 : Int32) <<< (nI r &&& 31)) &&& (1 <<< (nI q &&& 31)) = if q = r then 1 <<< (nI q &&& 31) else 0 := by decide +kernel
theorem or_and9 (a b c : Int32) : (a ||| b) &&& c = (a &&& c) ||| (b &&& c) := Int32.toBitVec_inj.1 BitVec.and_or_distrib_right
theorem aq_or {a : Int32} {q r : Nat} (hq : q < 10) (hr : r < 10) : aq (a ||| (1 <<< (nI r &&& 31))) q ↔ aq a q ∨ q = r := by
  unfold aq
  rw [or_and9, bit_and r hr q hq, Int32.or_eq_zero_iff]
  by_cases e : q = r
  · rw [if_pos e]
    exact ⟨fun _ => Or.inr e, fun _ h => bit_ne q hq h.2⟩
  · rw [if_neg e]
    exact ⟨fun h => Or.inl (fun h2 => h ⟨h2, rfl⟩), fun h h2 => by
      rcases h with h | h
      · exact h h2.1
      · exact e h⟩
theorem aq_0 {q : Nat} : ¬ aq 0 q := fun h => h (by simp)
theorem aq_dec (a : Int32) (q : Nat) : aq a q ∨ ¬ aq a q := Classical.em _
/-- sums below n -/
def sumN (f : Nat → Nat) : Nat → Nat
  | 0 => 0
  | n + 1 => sumN f n + f n
theorem sumN_cong {f g : Nat → Nat} : ∀ n, (∀ q, q < n → f q = g q) → sumN f n = sumN g n
  | 0, _ => rfl
  | n + 1, h => by rw [sumN, sumN, sumN_cong n fun q hq => h q (by omega), h n (by omega)]
theorem sumN_le {f g : Nat → Nat} : ∀ n, (∀ q, q < n → f q ≤ g q) → sumN f n ≤ sumN g n
  | 0, _ => Nat.le_refl _
  | n + 1, h => Nat.add_le_add (sumN_le n fun q hq => h q (by omega)) (h n (by omega))
theorem sumN_lt {f g : Nat → Nat} {r : Nat} : ∀ n, (∀ q, q < n → f q ≤ g q) → r < n → f r < g r → sumN f n < sumN g n
  | 0, _, h, _ => absurd h (Nat.not_lt_zero _)
  | n + 1, h, hr, h2 => by
    by_cases e : r = n
    · subst e
      exact Nat.add_lt_add_of_le_of_lt (sumN_le r fun q hq => h q (by omega)) h2
    · exact Nat.add_lt_add_of_lt_of_le (sumN_lt n (fun q hq => h q (by omega)) (by omega) h2) (h n (by omega))
theorem sumN_add {f g : Nat → Nat} : ∀ n, sumN (fun q => f q + g q) n = sumN f n + sumN g n
  | 0 => rfl
  | n + 1 => by rw [sumN, sumN, sumN, sumN_add n]; omega
theorem sumN_put {f g : Nat → Nat} {r : Nat} : ∀ n, (∀ q, q < n → q ≠ r → g q = f q) → r < n → sumN g n + f r = sumN f n + g r
  | 0, _, h => absurd h (Nat.not_lt_zero _)
  | n + 1, h, hr => by
    rw [sumN, sumN]
    by_cases e : r = n
    · subst e
      rw [sumN_cong (f := g) (g := f) r fun q hq => h q (by omega) (by omega)]
      omega
    · have := sumN_put n (fun q hq => h q (by omega)) (by omega : r < n)
      rw [h n (by omega) (by omega)]
      omega
theorem sumN_one {r x : Nat} : ∀ n, r < n → sumN (fun q => if q = r then x else 0) n = x
  | 0, h => absurd h (Nat.not_lt_zero _)
  | n + 1, h => by
    rw [sumN]
    by_cases e : r = n
    · subst e
      rw [if_pos rfl, sumN_cong (g := fun _ => 0) r fun q hq => if_neg (by omega)]
      have : ∀ n, sumN (fun _ => 0) n = 0 := fun n => by
        induction n with
        | zero => rfl
        | succ n ih => rw [sumN, ih]
      rw [this]; omega
    · rw [if_neg (by omega), sumN_one n (by omega)]; rfl
theorem sumN_zero {f : Nat → Nat} : ∀ n, (∀ q, q < n → f q = 0) → sumN f n = 0
  | 0, _ => rfl
  | n + 1, h => by rw [sumN, sumN_zero n fun q hq => h q (by omega), h n (by omega)]
theorem sumN_swap (f : Nat → Nat → Nat) : ∀ n k, sumN (fun a => sumN (fun b => f a b) k) n = sumN (fun b => sumN (fun a => f a b) n) k
  | 0, k => by
    show 0 = _
    exact (sumN_zero k fun q _ => rfl).symm
  | n + 1, k => by
    rw [sumN, sumN_swap f n k, ← sumN_add]
    exact sumN_cong k fun q _ => by rw [sumN]
/-- rooms not asked -/
def cq (a : Int32) (q : Nat) : Nat := if a &&& (1 <<< (nI q &&& 31)) = 0 then 1 else 0
theorem cq_y {a : Int32} {q : Nat} (h : aq a q) : cq a q = 0 := if_neg h
theorem cq_n {a : Int32} {q : Nat} (h : ¬ aq a q) : cq a q = 1 := if_pos (Classical.not_not.mp h)
def cnt (a : Int32) : Nat → Nat := sumN (cq a)
theorem cnt_le {a b : Int32} (h : ∀ q, q < 10 → aq a q → aq b q) : cnt b 10 ≤ cnt a 10 := sumN_le 10 fun q hq => by
  rcases aq_dec b q with e | e
  · rw [cq_y e]; exact Nat.zero_le _
  · rw [cq_n e, cq_n (fun h2 => e (h q hq h2))]; exact Nat.le_refl _
theorem cnt_lt {a : Int32} {r : Nat} (hr : r < 10) (h : ¬ aq a r) : cnt (a ||| (1 <<< (nI r &&& 31))) 10 < cnt a 10 := sumN_lt (r := r) 10 (fun q hq => by
  rcases aq_dec a q with e | e
  · rw [cq_y e, cq_y ((aq_or hq hr).mpr (Or.inl e))]; exact Nat.le_refl _
  · rw [cq_n e]; unfold cq; split <;> decide) hr (by rw [cq_n h, cq_y ((aq_or hr hr).mpr (Or.inr rfl))]; decide)
theorem cnt_10 (a : Int32) : cnt a 10 ≤ 10 := by
  have h : cnt a 10 ≤ sumN (fun _ => 1) 10 := sumN_le 10 fun q _ => by unfold cq; split <;> decide
  exact h
/-- what the holders pay -/
def wt (w : Nat → Nat) (x : Int32) : Nat := if x = -1 then 0 else w x.toNatClampNeg
theorem wt_n {w : Nat → Nat} {v : Nat} (hv : v < 12) : wt w (nI v) = w v := by rw [wt, if_neg (nI_ne1 (by omega)), nI_clamp (by omega)]
def wS (w : Nat → Nat) (ho : Nat → Int32) : Nat := sumN (fun q => wt w (ho q)) 10
theorem wS_upd {w : Nat → Nat} {ho : Nat → Int32} {r u : Nat} (hr : r < 10) (hu : u < 12) : wS w (upd ho r (nI u)) + wt w (ho r) = wS w ho + w u := by
  have := sumN_put (f := fun q => wt w (ho q)) (g := fun q => wt w (upd ho r (nI u) q)) (r := r) 10 (fun q _ h => by rw [pk_un h]) hr
  rw [show wt w (upd ho r (nI u) r) = w u by rw [pk_us, wt_n hu]] at this
  exact this
/-- rooms whose holders would sit nowhere else -/
def CLO (al : Nat → Int32) (ho : Nat → Int32) (Z : Nat → Prop) : Prop := ∀ q, q < 10 → Z q → ∃ v, v < 12 ∧ ho q = nI v ∧ ∀ q', q' < 10 → aq (al v) q' → Z q'
def INJ (S : Int32) (ho : Nat → Int32) : Prop := ∀ q q', q < 10 → q' < 10 → ¬ aq S q → ¬ aq S q' → ¬ ho q = -1 → ho q = ho q' → q = q'
/-- a search that found a room -/
def SU (al : Nat → Int32) (w : Nat → Nat) (u : Nat) (S : Int32) (ho ho' : Nat → Int32) : Prop :=
  (∀ q, q < 10 → aq S q → ho' q = ho q) ∧ (∀ q, q < 10 → ¬ ho q = -1 → ∃ q', q' < 10 ∧ ho' q' = ho q) ∧ (∀ q, q < 10 → ho' q = ho q ∨ ∃ v, v < 12 ∧ ho' q = nI v ∧ aq (al v) q) ∧ wS w ho' = wS w ho + w u ∧
  (INJ S ho → (∀ q, q < 10 → ¬ aq S q → ¬ ho q = nI u) → INJ S ho' ∧ ∀ x, ¬ x = nI u → (∀ q, q < 10 → ¬ aq S q → ¬ ho q = x) → ∀ q, q < 10 → ¬ aq S q → ¬ ho' q = x) ∧
  ∀ Z : Nat → Prop, CLO al ho Z → (∀ q, q < 10 → Z q → ho' q = ho q) ∧ ∃ r1, r1 < 10 ∧ ¬ aq S r1 ∧ ¬ Z r1 ∧ aq (al u) r1 ∧ ho' r1 = nI u
section
variable {al : Nat → Int32} {w : Nat → Nat} {u v r : Nat} {S S2 : Int32} {ho ho' ho2 : Nat → Int32}
theorem SU.base (hr : r < 10) (hu : u < 12) (ha : aq (al u) r) (hS : ¬ aq S r) (h0 : ho r = -1) : SU al w u S ho (upd ho r (nI u)) := by
  refine ⟨fun q hq hs => pk_un (fun e => hS (e ▸ hs)), fun q hq h => ⟨q, hq, pk_un (fun e => h (e ▸ h0))⟩, fun q hq => ?_, ?_, fun hI hn => ⟨fun q q' hq hq' hs hs' h1 h2 => ?_, fun x hx hxn q hq hs => ?_⟩, fun Z hZ => ?_⟩
  · by_cases e : q = r
    · subst e; exact Or.inr ⟨u, hu, pk_us, ha⟩
    · exact Or.inl (pk_un e)
  · have := wS_upd (w := w) (ho := ho) hr hu
    rw [h0] at this
    exact this
  · by_cases e : q = r
    · subst e
      by_cases e' : q' = q
      · exact e'.symm
      · rw [pk_us, pk_un e'] at h2
        exact absurd h2.symm (hn q' hq' hs')
    · by_cases e' : q' = r
      · subst e'
        rw [pk_us, pk_un e] at h2
        exact absurd h2 (hn q hq hs)
      · rw [pk_un e] at h1 h2
        rw [pk_un e'] at h2
        exact hI q q' hq hq' hs hs' h1 h2
  · by_cases e : q = r
    · subst e; rw [pk_us]; exact fun h => hx h.symm
    · rw [pk_un e]; exact hxn q hq hs
  · have hZr : ¬ Z r := fun hz => by
      obtain ⟨v, hv, e, -⟩ := hZ r hr hz
      exact nI_ne1 (by omega) (e.symm.trans h0)
    exact ⟨fun q hq hz => pk_un (fun e => hZr (e ▸ hz)), r, hr, hS, hZr, ha, pk_us⟩
theorem SU.step (hr : r < 10) (hu : u < 12) (hv : v < 12) (ha : aq (al u) r) (hS : ¬ aq S r) (h0 : ho r = nI v) (h : SU al w v (S ||| (1 <<< (nI r &&& 31))) ho ho2) : SU al w u S ho (upd ho2 r (nI u)) := by
  obtain ⟨a1, a2, a3, a4, a5, a6⟩ := h
  have hr2 : ho2 r = nI v := (a1 r hr ((aq_or hr hr).mpr (Or.inr rfl))).trans h0
  have hs2 : ∀ q, q < 10 → ¬ aq (S ||| (1 <<< (nI r &&& 31))) q → ¬ aq S q ∧ q ≠ r := fun q hq h => ⟨fun h2 => h ((aq_or hq hr).mpr (Or.inl h2)), fun h2 => h ((aq_or hq hr).mpr (Or.inr h2))⟩
  have hs3 : ∀ q, q < 10 → ¬ aq S q → q ≠ r → ¬ aq (S ||| (1 <<< (nI r &&& 31))) q := fun q hq h1 h2 h => by
    rcases (aq_or hq hr).mp h with h | h
    · exact h1 h
    · exact h2 h
  obtain ⟨-, r1, hr1, hr1s, -, -, hr1v⟩ := a6 (fun _ => False) (fun _ _ h => h.elim)
  refine ⟨fun q hq hs => ?_, fun q hq h => ?_, fun q hq => ?_, ?_, fun hI hn => ?_, fun Z hZ => ?_⟩
  · have e : q ≠ r := fun e => hS (e ▸ hs)
    rw [pk_un e]
    exact a1 q hq ((aq_or hq hr).mpr (Or.inl hs))
  · obtain ⟨q', hq', e⟩ := a2 q hq h
    by_cases e2 : q' = r
    · refine ⟨r1, hr1, ?_⟩
      rw [pk_un (hs2 r1 hr1 hr1s).2, hr1v, ← e, e2, hr2]
    · exact ⟨q', hq', by rw [pk_un e2]; exact e⟩
  · by_cases e : q = r
    · subst e; exact Or.inr ⟨u, hu, pk_us, ha⟩
    · rw [pk_un e]; exact a3 q hq
  · have := wS_upd (w := w) (ho := ho2) hr hu
    rw [hr2, wt_n hv] at this
    omega
  · have hvS : ∀ q, q < 10 → ¬ aq (S ||| (1 <<< (nI r &&& 31))) q → ¬ ho q = nI v := fun q hq hs e =>
      (hs2 q hq hs).2 (hI q r hq hr (hs2 q hq hs).1 hS (by rw [e]; exact nI_ne1 (by omega)) (e.trans h0.symm))
    have huv : ¬ nI u = nI v := fun e => hn r hr hS (h0.trans e.symm)
    obtain ⟨b1, b2⟩ := a5 (fun q q' hq hq' hs hs' h1 h2 => hI q q' hq hq' (hs2 q hq hs).1 (hs2 q' hq' hs').1 h1 h2) hvS
    have hu2 := b2 (nI u) huv (fun q hq hs => hn q hq (hs2 q hq hs).1)
    refine ⟨fun q q' hq hq' hs hs' h1 h2 => ?_, fun x hx hxn q hq hs => ?_⟩
    · by_cases e : q = r
      · subst e
        by_cases e' : q' = q
        · exact e'.symm
        · rw [pk_us, pk_un e'] at h2
          exact absurd h2.symm (hu2 q' hq' (hs3 q' hq' hs' e'))
      · by_cases e' : q' = r
        · subst e'
          rw [pk_us, pk_un e] at h2
          exact absurd h2 (hu2 q hq (hs3 q hq hs e))
        · rw [pk_un e] at h1 h2
          rw [pk_un e'] at h2
          exact b1 q q' hq hq' (hs3 q hq hs e) (hs3 q' hq' hs' e') h1 h2
    · by_cases e : q = r
      · subst e; rw [pk_us]; exact fun h => hx h.symm
      · rw [pk_un e]
        exact b2 x (fun e2 => hxn r hr hS (h0.trans e2.symm)) (fun q hq hs => hxn q hq (hs2 q hq hs).1) q hq (hs3 q hq hs e)
  · obtain ⟨b1, r2, c1, c2, c3, c4, c5⟩ := a6 Z hZ
    have hZr : ¬ Z r := fun hz => by
      obtain ⟨v2, hv2, e, hc⟩ := hZ r hr hz
      have e2 : v2 = v := (nI_eq (by omega) (by omega)).mp (e.symm.trans h0)
      subst e2
      exact c3 (hc r2 c1 c4)
    exact ⟨fun q hq hz => (pk_un (fun e => hZr (by rw [← e]; exact hz))).trans (b1 q hq hz), r, hr, hS, hZr, ha, pk_us⟩
theorem SU.mono (h : SU al w u S2 ho ho') (hs : ∀ q, q < 10 → aq S q → aq S2 q) : SU al w u S ho ho' := by
  obtain ⟨a1, a2, a3, a4, a5, a6⟩ := h
  refine ⟨fun q hq h => a1 q hq (hs q hq h), a2, a3, a4, fun hI hn => ?_, fun Z hZ => ?_⟩
  · obtain ⟨b1, b2⟩ := a5 (fun q q' hq hq' h h' => hI q q' hq hq' (fun z => h (hs q hq z)) (fun z => h' (hs q' hq' z))) (fun q hq h => hn q hq (fun z => h (hs q hq z)))
    have key : ∀ q q', q < 10 → q' < 10 → ¬ aq S q → ¬ aq S q' → aq S2 q → ¬ aq S2 q' → ¬ ho q = -1 → ho' q' = ho q → False := fun q q' hq hq' h1 h2 h3 h4 h5 h6 =>
      b2 (ho q) (hn q hq h1) (fun q2 hq2 h7 e => h7 (hI q q2 hq hq2 h1 (fun z => h7 (hs q2 hq2 z)) h5 e.symm ▸ h3)) q' hq' h4 h6
    refine ⟨fun q q' hq hq' h h' h1 h2 => ?_, fun x hx hxn q hq h => ?_⟩
    · by_cases e : aq S2 q
      · by_cases e' : aq S2 q'
        · rw [a1 q hq e] at h1 h2
          rw [a1 q' hq' e'] at h2
          exact hI q q' hq hq' h h' h1 h2
        · rw [a1 q hq e] at h1 h2
          exact (key q q' hq hq' h h' e e' h1 h2.symm).elim
      · by_cases e' : aq S2 q'
        · rw [a1 q' hq' e'] at h2
          exact (key q' q hq' hq h' h e' e (by rw [← h2]; exact h1) h2).elim
        · exact b1 q q' hq hq' e e' h1 h2
    · by_cases e : aq S2 q
      · rw [a1 q hq e]; exact hxn q hq h
      · exact b2 x hx (fun q hq h => hxn q hq (fun z => h (hs q hq z))) q hq e
  · obtain ⟨b1, r1, c1, c2, c3⟩ := a6 Z hZ
    exact ⟨b1, r1, c1, fun z => c2 (hs r1 c1 z), c3⟩
end
/-- a search that failed, over the rooms from r on -/
def FA (al : Nat → Int32) (v r n : Nat) (t t' : gK) : Prop := t'.2 = t.2 ∧ (∀ q, q < 10 → aq t.1 q → aq t'.1 q) ∧ (∀ q, q < 10 → aq t'.1 q → ¬ aq t.1 q → ∃ x, x < 12 ∧ t.2 q = nI x ∧ ∀ q', q' < 10 → aq (al x) q' → aq t'.1 q') ∧ ∀ q, r ≤ q → q < r + n → aq (al v) q → aq t'.1 q
def KS (al : Nat → Int32) (w : Nat → Nat) (v r n : Nat) (t : gK) (res : Bool × gK) : Prop := (res.1 = false → FA al v r n t res.2) ∧ (res.1 = true → SU al w v t.1 t.2 res.2.2)
theorem KS.skip {al : Nat → Int32} {w : Nat → Nat} {v r n : Nat} {t : gK} {res : Bool × gK} (hr : r < 10) (h : KS al w v (r + 1) n t res) (hs : aq (al v) r → aq t.1 r) : KS al w v r (n + 1) t res := by
  refine ⟨fun e => ?_, h.2⟩
  obtain ⟨a1, a2, a3, a4⟩ := h.1 e
  refine ⟨a1, a2, a3, fun q h1 h2 h3 => ?_⟩
  by_cases e : q = r
  · subst e; exact a2 q hr (hs h3)
  · exact a4 q (by omega) (by omega) h3
theorem kL_sp {al : Nat → Int32} {w : Nat → Nat} {rec : Nat → gK → Bool × gK} {d : Nat} (hrec : ∀ v t, v < 12 → HO t.2 → cnt t.1 10 < d → KS al w v 0 10 t (rec v t)) {u : Nat} (hu : u < 12) : ∀ n r (t : gK), r + n = 10 → HO t.2 → cnt t.1 10 ≤ d → KS al w u r n t (kL rec (al u) u n r t)
  | 0, r, t, _, _, _ => by
    rw [kL]
    exact ⟨fun _ => ⟨rfl, fun _ _ h => h, fun _ _ h1 h2 => absurd h1 h2, fun q h1 h2 => absurd h2 (by omega)⟩, fun h => by cases h⟩
  | n + 1, r, t, hn, hH, hc => by
    have hr : r < 10 := by omega
    rw [kL]
    split
    · rename_i h1
      exact (kL_sp hrec hu n (r + 1) t (by omega) hH hc).skip hr (fun h => absurd h1 h)
    · rename_i h1
      split
      · rename_i h2
        exact (kL_sp hrec hu n (r + 1) t (by omega) hH hc).skip hr (fun _ => h2)
      · rename_i h2
        split
        · rename_i h3
          exact ⟨fun h => (by cases h), fun _ => SU.base hr hu h1 h2 h3⟩
        · rename_i h3
          obtain ⟨v, hv, e⟩ := (hH r hr).resolve_left h3
          have hcl : (t.2 r).toNatClampNeg = v := by rw [e]; exact nI_clamp (by omega)
          have hlt : cnt (t.1 ||| (1 <<< (nI r &&& 31))) 10 < d := Nat.lt_of_lt_of_le (cnt_lt hr h2) hc
          have hk := hrec v (t.1 ||| (1 <<< (nI r &&& 31)), t.2) hv hH hlt
          rw [hcl]
          generalize rec v (t.1 ||| (1 <<< (nI r &&& 31)), t.2) = res at hk ⊢
          obtain ⟨b, t2⟩ := res
          cases b
          · obtain ⟨a1, a2, a3, a4⟩ := hk.1 rfl
            show KS al w u r (n + 1) t (kL rec (al u) u n (r + 1) t2)
            have hsub : ∀ q, q < 10 → aq t.1 q → aq t2.1 q := fun q hq h => a2 q hq ((aq_or hq hr).mpr (Or.inl h))
            have hr2 : aq t2.1 r := a2 r hr ((aq_or hr hr).mpr (Or.inr rfl))
            have a1 : t2.2 = t.2 := a1
            have ih := kL_sp hrec hu n (r + 1) t2 (by omega) (by rw [a1]; exact hH) (Nat.le_trans (cnt_le hsub) hc)
            refine ⟨fun e2 => ?_, fun e2 => ?_⟩
            · obtain ⟨b1, b2, b3, b4⟩ := ih.1 e2
              refine ⟨b1.trans a1, fun q hq h => b2 q hq (hsub q hq h), fun q hq h4 h5 => ?_, fun q h4 h5 h6 => ?_⟩
              · by_cases h7 : aq t2.1 q
                · by_cases h8 : q = r
                  · subst h8
                    exact ⟨v, hv, e, fun q' hq' h9 => b2 q' hq' (a4 q' (by omega) (by omega) h9)⟩
                  · obtain ⟨x, hx, c1, c2⟩ := a3 q hq h7 (fun z => by
                      rcases (aq_or hq hr).mp z with z | z
                      · exact h5 z
                      · exact h8 z)
                    exact ⟨x, hx, c1, fun q' hq' h9 => b2 q' hq' (c2 q' hq' h9)⟩
                · obtain ⟨x, hx, c1, c2⟩ := b3 q hq h4 h7
                  exact ⟨x, hx, by rw [← a1]; exact c1, c2⟩
              · by_cases h7 : q = r
                · subst h7; exact b2 q hr hr2
                · exact b4 q (by omega) (by omega) h6
            · have := ih.2 e2
              rw [a1] at this
              exact this.mono hsub
          · exact ⟨fun h => (by cases h), fun _ => (hk.2 rfl).step hr hu hv h1 h2 e⟩
theorem kF_sp (al : Nat → Int32) (w : Nat → Nat) : ∀ d u (t : gK), u < 12 → HO t.2 → cnt t.1 10 < d → KS al w u 0 10 t (kF al d u t)
  | 0, u, t, _, _, h => absurd h (Nat.not_lt_zero _)
  | d + 1, u, t, hu, hH, hc => by
    rw [kF]
    exact kL_sp (fun v t hv hH hc => kF_sp al w d v t hv hH hc) hu 10 0 t rfl hH (by omega)
