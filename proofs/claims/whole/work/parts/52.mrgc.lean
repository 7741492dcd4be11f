/-! ===== PHASE B: merging, step (a), both loops ===== -/
theorem FM.at {u u' : Mem} (h : FM u u') {i : Nat} (hi : i = 46 ∨ i = 47 ∨ i = 48 ∨ i = 57) : u' i = u i := h i (by omega) (by omega) (by omega) (by omega) (by omega) (by omega) (by omega)
theorem inM_keep {u u' : Mem} (h : FM u u') (s : Nat) : inM u' s = inM u s := by
  unfold inM
  rw [h.at (i := 46) (by omega), h.at (i := 47) (by omega), h.at (i := 48) (by omega)]
theorem cfM_keep {u u' : Mem} (h : FM u u') (s : Nat) : cfM u' s = cfM u s := by
  unfold cfM
  rw [h.at (i := 46) (by omega), h.at (i := 47) (by omega), h.at (i := 48) (by omega)]
theorem cf_in {u : Mem} {s : Nat} (h : cfM u s = true) : inM u s = true := by
  unfold cfM at h
  unfold inM
  cases h1 : hF (u 46) s <;> cases h2 : hF (u 47) s <;> cases h3 : hF (u 48) s <;> rw [h1, h2, h3] at h <;> simp_all
def Ja (u0 v0 : Mem) (k : Nat) (u v : Mem) : Prop := FM u0 u ∧ FN v0 v ∧ (∀ j, j < 16 → u 49 (64 + j) = if j = 0 ∨ (j < k ∧ inM u0 j = true) then 1 else 0) ∧ (∀ j, j < k → v 1 (192 + j) = if inM u0 j = true then -1 else -9) ∧ u 49 0 = -1 ∧ u 49 16 = 0 ∧ ∃ n, n ≤ k ∧ MC u v n
theorem Ja.next {u0 v0 u v : Mem} {k : Nat} (h : Ja u0 v0 k u v) (h0 : 0 < k) (hk : k < 16) {u' v' : Mem} {n' : Nat} (h1 : FM u u') (h2 : FN v v') (h3 : u' 49 = if inM u0 k = true then upd (u 49) (64 + k) 1 else u 49) (h4 : v' 1 = v 1) (h5 : MC u' v' n') (h6 : n' ≤ k + 1) : Ja u0 v0 (k + 1) u' (upm v' 1 (upd (v' 1) (192 + k) (if inM u0 k = true then -1 else -9))) := by
  obtain ⟨a1, a2, a3, a4, a5, a6, a7⟩ := h
  refine ⟨a1.tr h1, (a2.tr h2).tr (FN.p1 (by omega)), fun j hj => ?_, fun j hj => ?_, ?_, ?_, n', h6, ?_⟩
  · rw [h3]
    by_cases e : j = k
    · subst e
      cases hI : inM u0 j
      · rw [if_neg (by decide), if_neg (by intro z; rcases z with z | ⟨_, z⟩; omega; cases z), a3 j hj, if_neg (by omega)]
      · rw [if_pos rfl, upd_s, if_pos (Or.inr ⟨by omega, rfl⟩)]
    · have e2 : (if inM u0 k = true then upd (u 49) (64 + k) 1 else u 49) (64 + j) = u 49 (64 + j) := by
        by_cases hI : inM u0 k = true
        · rw [if_pos hI, upd_n _ _ (by omega)]
        · rw [if_neg hI]
      rw [e2, a3 j hj]
      by_cases c : j = 0 ∨ (j < k ∧ inM u0 j = true)
      · rw [if_pos c, if_pos (by rcases c with c | c; exact Or.inl c; exact Or.inr ⟨by omega, c.2⟩)]
      · rw [if_neg c, if_neg (fun z => c (by rcases z with z | z; exact Or.inl z; exact Or.inr ⟨by omega, z.2⟩))]
  · rw [upm_same, h4]
    by_cases e : j = k
    · subst e; rw [upd_s]
    · rw [upd_n _ _ (by omega)]; exact a4 j (by omega)
  · rw [h3]
    by_cases hI : inM u0 k = true
    · rw [if_pos hI, upd_n _ _ (by omega)]; exact a5
    · rw [if_neg hI]; exact a5
  · rw [h3]
    by_cases hI : inM u0 k = true
    · rw [if_pos hI, upd_n _ _ (by omega)]; exact a6
    · rw [if_neg hI]; exact a6
  · exact h5.keep rfl rfl rfl rfl (by rw [upm_ne _ _ (by decide)]) (by rw [upm_ne _ _ (by decide)])
theorem stA {u0 v0 : Mem} {p : Nat} (hB : MB u0 v0 p) (hc : MC u0 v0 0) (hm : ∀ j, j < 16 → u0 49 (64 + j) = if j = 0 then 1 else 0) (h0 : u0 49 0 = -1) (h16 : u0 49 16 = 0) : ∃ u v, X3_chooseSections u0 = some u ∧ X9_merge_L7 fu 0 v0 = some v ∧ Ja u0 v0 16 u v := by
  have root : ∀ o, o < 3 → hF (u0 (46 + o)) 0 = true := fun o ho => by rw [hh_of]; exact (hB.1 o ho).2.1.1
  have r0 : hF (u0 46) 0 = true := root 0 (by decide)
  have r1 : hF (u0 47) 0 = true := root 1 (by decide)
  have r2 : hF (u0 48) 0 = true := root 2 (by decide)
  have i0 : inM u0 0 = true := by unfold inM; rw [r0, r1, r2]; rfl
  have c0 : cfM u0 0 = false := by unfold cfM; rw [r0, r1, r2]; rfl
  have first : ∀ m, X9_merge_L7 (m + 1) (nI 0) v0 = X9_merge_L7 m (nI 1) (upm v0 1 (upd (v0 1) 192 (-1))) := by
    intro m
    rw [X9_merge_L7, if_neg (by rw [nle_16 (by omega)]; omega), mi_step hB (by decide), c0, i0, nar_1]
    rfl
  obtain ⟨u, v, e1, e2, e3⟩ := lk X3_chooseSections_L2 X9_merge_L7 16 (by decide) (fun k u v => Ja u0 v0 k u v ∧ 0 < k) (fun n u => by rw [X3_chooseSections_L2, if_pos (by decide)]) (fun n u => by rw [X9_merge_L7, if_pos (by decide)])
    (fun n m u v k hk ⟨hJ, h0⟩ => by
      have hF1 := hJ.1
      have hF2 := hJ.2.1
      obtain ⟨nn, hn, hmc⟩ := hJ.2.2.2.2.2.2
      have hB' := hB.keep hF1 hF2
      have hy : X9_merge_L7 (m + 1) (nI k) v = (X9_mergeIn v (nI k)).bind fun m1 => X9_merge_L7 m (nI (k + 1)) m1 := by
        rw [X9_merge_L7, if_neg (by rw [nle_16 (by omega)]; omega), nar_1]
      rw [cs_step hk, hy, mi_step hB' hk, inM_keep hF1, cfM_keep hF1]
      cases hc : cfM u0 k
      · cases hi : inM u0 k
        · have := hJ.next h0 hk (u' := u) (v' := v) FM.rf FN.rf (by rw [hi]; rfl) rfl hmc (by omega)
          rw [hi] at this
          exact ⟨u, _, ⟨this, by omega⟩, rfl, rfl⟩
        · have := hJ.next h0 hk (u' := incl u k) (v' := v) FM.p49 FN.rf (by rw [hi]; exact upm_same _ _ _) rfl (hmc.keep (upm_ne _ _ (by decide)) (upm_ne _ _ (by decide)) (upm_ne _ _ (by decide)) (upm_ne _ _ (by decide)) rfl rfl) (by omega)
          rw [hi] at this
          exact ⟨incl u k, _, ⟨this, by omega⟩, rfl, rfl⟩
      · have hi : inM u0 k = true := cf_in hc
        rw [if_pos rfl, if_pos rfl, hi, if_pos rfl]
        have hmc' : MC (incl u k) v nn := hmc.keep (upm_ne _ _ (by decide)) (upm_ne _ _ (by decide)) (upm_ne _ _ (by decide)) (upm_ne _ _ (by decide)) rfl rfl
        obtain ⟨u', v', t1, t2, t3, t4, t5, t6⟩ := tell_ok (by omega) hmc' 3 (nI k) (nI k)
        rw [t1, t2, ob_some, ob_some, ob_some]
        have := hJ.next h0 hk (u' := u') (v' := v') (FM.p49.tr (FM.tell t4)) (FN.tell t5 t6) (by rw [hi, t4 49 (by decide) (by decide) (by decide) (by decide)]; exact upm_same _ _ _) (t5 1 (by decide) (by decide)) t3 (by omega)
        rw [hi] at this
        exact ⟨u', _, ⟨this, by omega⟩, rfl, rfl⟩)
    1 u0 (upm v0 1 (upd (v0 1) 192 (-1))) fu 4095 (by decide) (by decide) (by decide)
    ⟨⟨FM.rf, FN.p1 (by omega), fun j hj => by
        rw [hm j hj]
        by_cases e : j = 0
        · rw [if_pos e, if_pos (Or.inl e)]
        · rw [if_neg e, if_neg (by omega)], fun j hj => by
        have : j = 0 := by omega
        subst this
        rw [upm_same, i0, if_pos rfl]
        exact upd_s _ _ _, h0, h16, 0, by omega, hc.keep rfl rfl rfl rfl (by rw [upm_ne _ _ (by decide)]) (by rw [upm_ne _ _ (by decide)])⟩, by decide⟩
  refine ⟨u, v, ?_, ?_, e3.1⟩
  · unfold X3_chooseSections
    show (X3_chooseSections_L2 fu (nI 1) u0).bind _ = _
    rw [e1]; rfl
  · show X9_merge_L7 (4095 + 1) (nI 0) v0 = some v
    rw [first, e2]
