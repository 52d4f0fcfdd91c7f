theorem arrV_far (cI : ClassId) (N : Nat) {f f2 : Nat → Value} (h : ∀ j, j < N → f j = f2 j) : arrV cI N f = arrV cI N f2 := by
  unfold arrV
  have e : (fun j : Fin N => f j.val) = (fun j : Fin N => f2 j.val) := funext fun j => h j.val j.isLt
  rw [e]
/-- a row is known by its first numbers -/
theorem mP.far {E : gE} {A : Nat → Prop} {g : Nat → Nat} {M : gM} {H : Heap} {t n : Nat} {f f2 : Nat → Int32} (hM : mP E A g (mu M t (.inl (E.2.1, n, .inl f))) H) (h : ∀ j, j < n → f j = f2 j) : mP E A g (mu M t (.inl (E.2.1, n, .inl f2))) H := by
  refine ⟨fun u e hu => ?_, fun u v e e2 hu hv hg => ?_⟩
  · by_cases q : u = t
    · subst q
      rw [mu_s] at hu
      cases hu
      obtain ⟨h1, h2⟩ := hM.1 u _ mu_s
      refine ⟨?_, h2⟩
      have h3 : H[g u]? = some (vp_cell E.2.1 (n, .inl f)) := h1
      show H[g u]? = some (vp_cell E.2.1 (n, .inl f2))
      rw [h3, vp_cell_i, vp_cell_i, arrV_far E.2.1 n (fun j hj => by rw [h j hj])]
    · rw [mu_n q] at hu
      exact hM.1 u e (by rw [mu_n q]; exact hu)
  · have k : ∀ w e3, mu M t (.inl (E.2.1, n, .inl f2)) w = some e3 → ∃ e4, mu M t (.inl (E.2.1, n, .inl f)) w = some e4 := by
      intro w e3 hw
      by_cases q : w = t
      · subst q; exact ⟨_, mu_s⟩
      · rw [mu_n q] at hw; exact ⟨e3, by rw [mu_n q]; exact hw⟩
    obtain ⟨e4, h4⟩ := k u e hu
    obtain ⟨e5, h5⟩ := k v e2 hv
    exact hM.2 u v e4 e5 h4 h5 hg
