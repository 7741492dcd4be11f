/-! ===== PHASE B: type, clear, refused ===== -/
theorem st_clear {u v : Mem} (h : Rel u v) : St (X8_clear u) (X9_clear v) := by
  obtain ⟨n, hn, h1, h2, h3⟩ := h.2.2.2.1
  unfold X8_clear X7_wipe X9_clear stF
  rw [ob_some, ob_2, ob_some, h1, h2]
  have hu : ∀ i, i ≠ 77 → upf u 77 2 0 i = u i := fun i hi => by unfold upf; rw [upm_ne _ _ hi]
  have hv : ∀ i, i ≠ 0 → upf v 0 7 0 i = v i := fun i hi => by unfold upf; rw [upm_ne _ _ hi]
  refine ⟨nI n, _, _, rfl, rfl, ?_, ?_, ?_, ?_, ?_⟩
  · exact h.1.same (hu _ (by decide)) (hu _ (by decide)) (hu _ (by decide)) (hu _ (by decide)) (hv _ (by decide))
  · exact h.2.1.same (fun i hi => hu i (by omega)) (by unfold upf; rw [upm_same, upd_n _ _ (by decide)]) (hv 4 (by decide))
  · unfold CN
    rw [hu 58 (by decide), hv 5 (by decide)]
    exact h.2.2.1
  · refine ⟨0, by decide, ?_, ?_, fun k hk => by omega⟩
    · unfold upf; rw [upm_same, upd_s]; rfl
    · unfold upf; rw [upm_same, upd_s]; rfl
  · exact h.2.2.2.2.same (by rw [hu 61 (by decide)]) (hu _ (by decide)) (hu _ (by decide)) (hu _ (by decide)) (hu _ (by decide)) (hu _ (by decide)) (hu _ (by decide)) (hu _ (by decide)) (hu _ (by decide)) (hu _ (by decide))
theorem st_type {u v : Mem} (h : Rel u v) (c : Int32) : St (X8_type u c) (X9_type v c) := by
  obtain ⟨n, hn, h1, h2, h3⟩ := h.2.2.2.1
  unfold X8_type X9_type X9_in
  rcases i_cases c (n := 128) (by decide) with hc | hc | ⟨k, hk, rfl⟩
  · rw [if_pos hc, if_pos hc, ob_some, if_pos bt_f]
    exact st_bad h (Or.inl rfl)
  · have h4 : (127 : Int32) < c := Int32.lt_of_lt_of_le (by decide) hc
    have h5 : ¬ c < 0 := fun z => absurd (Int32.lt_trans h4 z) (by decide)
    rw [if_neg h5, if_neg h5, if_neg (show ¬ c < 128 from Int32.not_lt.mpr hc), if_pos h4, ob_some, if_pos bt_f]
    exact st_bad h (Or.inl rfl)
  · rw [if_neg (i_nn (by omega)), if_neg (i_nn (by omega)), if_pos (by rw [ntl_128 (by omega)]; exact hk), if_neg (by rw [nlt_127 (by omega)]; omega), ob_some, if_neg bt_t]
    unfold X7_append
    rw [h1, h2, if_neg (i_nn (by omega))]
    by_cases h150 : n = 150
    · subst h150
      rw [if_neg (by decide), ob_2, if_pos bt_f, if_pos (by decide)]
      exact st_bad h (Or.inr (Or.inr rfl))
    · rw [if_pos (by rw [ntl_150 (by omega)]; omega), if_neg (by rw [neq_150 (by omega)]; exact h150), stI_ok (by omega) (by decide), ob_some, stI_ok (by omega) (by decide), ob_some]
      unfold stF
      rw [ob_some, ob_2, if_neg bt_t, ob_some]
      have hu : ∀ i, i ≠ 77 → i ≠ 78 → upf (upm u 78 (upd (u 78) n (nI k))) 77 2 (upm u 78 (upd (u 78) n (nI k)) 77 2 + 1) i = u i := fun i a b => by unfold upf; rw [upm_ne _ _ a, upm_ne _ _ b]
      have hv : ∀ i, i ≠ 0 → i ≠ 6 → upf (upm v 6 (upd (v 6) n (nI k))) 0 7 (upm v 6 (upd (v 6) n (nI k)) 0 7 + 1) i = v i := fun i a b => by unfold upf; rw [upm_ne _ _ a, upm_ne _ _ b]
      have a1 : upf (upm u 78 (upd (u 78) n (nI k))) 77 2 (upm u 78 (upd (u 78) n (nI k)) 77 2 + 1) 77 2 = nI (n + 1) := by unfold upf; rw [upm_same, upd_s, upm_ne _ _ (by decide), h1, nar_1]
      have a2 : upf (upm v 6 (upd (v 6) n (nI k))) 0 7 (upm v 6 (upd (v 6) n (nI k)) 0 7 + 1) 0 7 = nI (n + 1) := by unfold upf; rw [upm_same, upd_s, upm_ne _ _ (by decide), h2, nar_1]
      rw [a1, a2]
      refine ⟨nI (n + 1), _, _, rfl, rfl, ?_, ?_, ?_, ?_, ?_⟩
      · exact h.1.same (hu _ (by decide) (by decide)) (hu _ (by decide) (by decide)) (hu _ (by decide) (by decide)) (hu _ (by decide) (by decide)) (hv _ (by decide) (by decide))
      · exact h.2.1.same (fun i hi => hu i (by omega) (by omega)) (by unfold upf; rw [upm_same, upd_n _ _ (by decide), upm_ne _ _ (by decide)]) (hv 4 (by decide) (by decide))
      · unfold CN
        rw [hu 58 (by decide) (by decide), hv 5 (by decide) (by decide)]
        exact h.2.2.1
      · refine ⟨n + 1, by omega, a1, a2, fun j hj => ?_⟩
        unfold upf
        rw [upm_ne _ _ (by decide), upm_same, upm_ne _ _ (by decide), upm_same]
        by_cases e : j = n
        · subst e
          rw [upd_s, upd_s]
          exact ⟨rfl, k, hk, rfl⟩
        · rw [upd_n _ _ e, upd_n _ _ e]
          exact h3 j (by omega)
      · exact h.2.2.2.2.same (by rw [hu 61 (by decide) (by decide)]) (hu _ (by decide) (by decide)) (hu _ (by decide) (by decide)) (hu _ (by decide) (by decide)) (hu _ (by decide) (by decide)) (hu _ (by decide) (by decide)) (hu _ (by decide) (by decide)) (hu _ (by decide) (by decide)) (hu _ (by decide) (by decide)) (hu _ (by decide) (by decide))
/-- the counts that both tell -/
theorem tellCount_ok {u v : Mem} (h : Rel u v) {k : Nat} (hk : k < 5) : ∃ r, X8_tellCount u (nI k) = some r ∧ X9_refusedOf v (nI k) = some r := by
  obtain ⟨n, hn, h1, h2, -⟩ := h.2.2.2.1
  obtain ⟨m, q, -, -, c1, c2, -⟩ := h.2.1
  obtain ⟨d1, d2, d3⟩ := h.2.2.1
  unfold X8_tellCount X9_refusedOf
  rcases (show k = 0 ∨ k = 1 ∨ k = 2 ∨ k = 3 ∨ k = 4 by omega) with e | e | e | e | e <;> subst e
  · exact ⟨u 58 7, by rw [if_pos nI_0], by rw [if_neg (by decide), rd_ok (by decide) (by decide), ob_some, d1]⟩
  · exact ⟨u 58 8, by rw [if_neg (by decide), if_pos (by decide)], by rw [if_neg (by decide), rd_ok (by decide) (by decide), ob_some, d2]⟩
  · exact ⟨u 58 9, by rw [if_neg (by decide), if_neg (by decide), if_pos (by decide)], by rw [if_neg (by decide), rd_ok (by decide) (by decide), ob_some, d3]⟩
  · exact ⟨nI n, by rw [if_neg (by decide), if_neg (by decide), if_neg (by decide), if_pos (by decide), h1], by rw [if_pos (by decide), if_pos (by decide), h2]⟩
  · exact ⟨nI m, by rw [if_neg (by decide), if_neg (by decide), if_neg (by decide), if_neg (by decide), c1], by rw [if_pos (by decide), if_neg (by decide), c2]⟩
theorem st_refused {u v : Mem} (h : Rel u v) (c : Int32) : St (X8_refused u c) (X9_refused v c) := by
  unfold X8_refused X9_refused X9_in
  rcases i_cases c (n := 5) (by decide) with hc | hc | ⟨k, hk, rfl⟩
  · rw [if_pos hc, if_pos hc, ob_some, if_pos bt_f]
    exact st_bad h (Or.inl rfl)
  · have h4 : (4 : Int32) < c := Int32.lt_of_lt_of_le (by decide) hc
    have h5 : ¬ c < 0 := fun z => absurd (Int32.lt_trans h4 z) (by decide)
    rw [if_neg h5, if_neg h5, if_neg (Int32.not_le.mpr h4), if_pos h4, ob_some, if_pos bt_f]
    exact st_bad h (Or.inl rfl)
  · obtain ⟨r, a1, a2⟩ := tellCount_ok h hk
    rw [if_neg (i_nn (by omega)), if_neg (i_nn (by omega)), if_pos (by rw [nel_4 (by omega)]; omega), if_neg (by rw [nlt_4 (by omega)]; omega), ob_some, if_neg bt_t, a1, a2]
    exact ⟨r, u, v, rfl, rfl, h⟩
