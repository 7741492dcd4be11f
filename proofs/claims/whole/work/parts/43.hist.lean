/-! ===== PHASE B: the states that are kept; the relation of both sides ===== -/
def slotN (q n i : Nat) : Nat := (q + 5 - n + i) % 5
def HS (u v : Mem) : Prop := ∃ n q, n ≤ 5 ∧ q < 5 ∧ u 59 2 = nI n ∧ v 0 4 = nI n ∧ u 59 1 = nI q ∧ ∀ i, i < n → DR u (2 + slotN q n i) (v 4) (258 * i) ∧ DV u (2 + slotN q n i)
def CN (u v : Mem) : Prop := u 58 7 = v 5 0 ∧ u 58 8 = v 5 1 ∧ u 58 9 = v 5 2
def TX (u v : Mem) : Prop := ∃ n, n ≤ 150 ∧ u 77 2 = nI n ∧ v 0 7 = nI n ∧ ∀ k, k < n → u 78 k = v 6 k ∧ ∃ c, c < 128 ∧ u 78 k = nI c
/-- the merged outline that the class keeps is of the outlines as they are -/
def MG (u : Mem) : Prop := u 61 5 = 1 ∨ (u 61 5 = 0 ∧ ∃ u0 u1 : Mem, E80 (u0 25) (u 25) ∧ E80 (u0 26) (u 26) ∧ E80 (u0 27) (u 27) ∧ u 50 3 = u0 50 3 ∧ u 50 4 = u0 50 4 ∧ u0 61 5 = 1 ∧ X3_refresh u0 0 = some u1 ∧ u1 49 = u 49 ∧ u1 64 = u 64 ∧ u1 65 = u 65 ∧ u1 66 = u 66 ∧ u1 67 = u 67)
def Rel (u v : Mem) : Prop := DS u v ∧ HS u v ∧ CN u v ∧ TX u v ∧ MG u
theorem DS.same {u v u' v' : Mem} (h : DS u v) (h25 : u' 25 = u 25) (h26 : u' 26 = u 26) (h27 : u' 27 = u 27) (h50 : u' 50 = u 50) (h1 : v' 1 = v 1) : DS u' v' := by
  have hr : ∀ o, o < 3 → u' (25 + (3 * 0 + o)) = u (25 + (3 * 0 + o)) := by
    intro o ho
    rcases (show o = 0 ∨ o = 1 ∨ o = 2 by omega) with e | e | e <;> subst e
    · exact h25
    · exact h26
    · exact h27
  exact ⟨by rw [h1]; exact h.1.same hr h50, h.2.same hr h50⟩
/-- the kept states are as they were -/
theorem HS.same {u v u' v' : Mem} (h : HS u v) (hu : ∀ i, (31 ≤ i ∧ i < 46) ∨ (52 ≤ i ∧ i < 57) ∨ i = 59 → u' i = u i) (h0 : v' 0 4 = v 0 4) (h4 : v' 4 = v 4) : HS u' v' := by
  obtain ⟨n, q, a, b, c, d, e, f⟩ := h
  refine ⟨n, q, a, b, by rw [hu 59 (by omega)]; exact c, by rw [h0]; exact d, by rw [hu 59 (by omega)]; exact e, fun i hi => ?_⟩
  obtain ⟨g1, g2⟩ := f i hi
  have hs : slotN q n i < 5 := Nat.mod_lt _ (by decide)
  rw [h4]
  exact ⟨g1.same (fun o ho => hu _ (by omega)) (hu _ (by omega)), g2.same (fun o ho => hu _ (by omega)) (hu _ (by omega))⟩
theorem MG.same {u u' : Mem} (h : MG u) (h61 : u' 61 5 = u 61 5) (h25 : u' 25 = u 25) (h26 : u' 26 = u 26) (h27 : u' 27 = u 27) (h50 : u' 50 = u 50) (h49 : u' 49 = u 49) (h64 : u' 64 = u 64) (h65 : u' 65 = u 65) (h66 : u' 66 = u 66) (h67 : u' 67 = u 67) : MG u' := by
  unfold MG
  rw [h61, h25, h26, h27, h50, h49, h64, h65, h66, h67]
  exact h
theorem keep_ok {u : Mem} {q n : Nat} (hq : q < 5) (hn : n ≤ 5) (h1 : u 59 1 = nI q) (h2 : u 59 2 = nI n) : ∃ u', X1_keep u 1 = some u' ∧ u' 59 1 = nI ((q + 1) % 5) ∧ u' 59 2 = nI (if n < 5 then n + 1 else 5) ∧ (∃ w, Cp u w (2 + q) 1 ∧ ∀ i, i ≠ 59 → u' i = w i) := by
  obtain ⟨w, hw, hC⟩ := copy_ok u (d := 2 + q) (e := 1) (by omega) (by decide) (by omega)
  have w59 : w 59 = u 59 := hC.2.2.2 59 (by omega) (by omega) (by omega) (by omega)
  have hslot : X1_slot u (nI q) = some (some (2 + q)) := by
    unfold X1_slot ldA
    rw [if_neg (i_nn (by omega)), if_neg (by rw [nle_5 (by omega)]; omega), i_tn (by omega), if_neg]
    · rfl
    · intro z
      rcases z with z | z
      · exact i_nn (by omega) z
      · omega
  unfold X1_keep
  rw [h1, hslot, ob_some]
  dsimp only
  rw [hw, ob_some, w59, h1, nar_1]
  unfold stF
  have e59 : ∀ (x : Int32), upf w 59 1 x 59 = upd (w 59) 1 x := by intro x; unfold upf; rw [upm_same]
  have hcount : (if (5 : Int32) < (w 59 2) + 1 then (5 : Int32) else (w 59 2) + 1) = nI (if n < 5 then n + 1 else 5) := by
    rw [w59, h2, nar_1]
    by_cases h : n < 5
    · rw [if_pos h, if_neg (by rw [nlt_5 (by omega)]; omega)]
    · rw [if_neg h, if_pos (by rw [nlt_5 (by omega)]; omega)]; rfl
  have hgo : ∀ (x : Int32), x = nI ((q + 1) % 5) → ∃ u', ((some (upf w 59 1 x)).bind fun mu10 => (some (upf mu10 59 2 (if (5 : Int32) < (mu10 59 2) + 1 then 5 else (mu10 59 2) + 1))).bind fun mu11 => some mu11) = some u' ∧ u' 59 1 = nI ((q + 1) % 5) ∧ u' 59 2 = nI (if n < 5 then n + 1 else 5) ∧ (∃ w, Cp u w (2 + q) 1 ∧ ∀ i, i ≠ 59 → u' i = w i) := by
    intro x hx
    refine ⟨_, rfl, ?_, ?_, w, hC, fun i hi => ?_⟩
    · unfold upf
      rw [upm_same, upd_n _ _ (by decide), upm_same, upd_s]
      exact hx
    · rw [e59, upd_n _ _ (by decide), hcount]
      unfold upf
      rw [upm_same, upd_s]
    · unfold upf
      rw [upm_ne _ _ hi, upm_ne _ _ hi]
  by_cases h : 5 ≤ q + 1
  · rw [if_pos (by rw [nle_5 (by omega)]; exact h), ob_some]
    exact hgo 0 (by rw [show (q + 1) % 5 = 0 by omega]; rfl)
  · rw [if_neg (by rw [nle_5 (by omega)]; exact h), ob_some]
    exact hgo _ (by rw [show (q + 1) % 5 = q + 1 by omega])
theorem notRefused {n : Nat} (h : n < 1000) : X9_isRefused (nI n) = some false := by
  unfold X9_isRefused
  rw [if_pos]
  have h2 : (-2 : Int32) < 0 := by decide
  have h3 : (0 : Int32) ≤ nI n := Int32.not_lt.mp (i_nn (by omega))
  exact Int32.lt_of_lt_of_le h2 h3
theorem finish_ok {v : Mem} {n k : Nat} (hn : n ≤ 5) (hk : k < 1000) (h : v 0 4 = nI n) : ∃ v', X9_finish v (nI k) = some (nI k, v') ∧ v' 0 4 = nI (if n < 5 then n + 1 else 5) ∧ (∀ i, i ≠ 4 → v' 0 i = v 0 i) ∧ (∀ i, i ≠ 0 → i ≠ 4 → v' i = v i) ∧
    (∀ t, t < 258 → v' 4 (258 * (if n < 5 then n else 4) + t) = v 2 t) ∧ (∀ i t, i < (if n < 5 then n else 4) → t < 258 → v' 4 (258 * i + t) = v 4 (258 * (if n < 5 then i else i + 1) + t)) := by
  unfold X9_finish
  rw [notRefused hk, ob_some, if_pos bt_f, h]
  have b1 : ∀ w : Mem, X9_bring w 4 258 4 0 1032 = some (upm w 4 (brG (w 4) (w 4) 258 0 1032)) := fun w => bring_ok (i := 258) (j := 0) (m := 1032) rfl rfl rfl (by decide) (by decide) (by decide) (by decide) (by omega)
  have b2 : ∀ (w : Mem) (m : Nat), m < 5 → X9_bring w 2 0 4 (258 * nI m) 258 = some (upm w 4 (brG (w 2) (w 4) 0 (258 * m) 258)) := fun w m hm => bring_ok (i := 0) (j := 258 * m) (m := 258) rfl (nml_258 m) rfl (by decide) (by show 258 * m + 258 ≤ 1290; omega) (by decide) (by decide) (by omega)
  by_cases h5 : n < 5
  · simp only [if_pos h5]
    rw [if_neg (by rw [neq_5 (by omega)]; omega), ob_some, h, b2 v n h5, ob_some]
    unfold stF
    rw [ob_some]
    refine ⟨_, rfl, ?_, fun i hi => ?_, fun i h1 h2 => ?_, fun t ht => ?_, fun i t hi ht => ?_⟩
    · unfold upf
      rw [upm_same, upd_s, upm_ne _ _ (by decide), h, nar_1]
    · unfold upf
      rw [upm_same, upd_n _ _ hi, upm_ne _ _ (by decide)]
    · unfold upf
      rw [upm_ne _ _ h1, upm_ne _ _ h2]
    · unfold upf
      rw [upm_ne _ _ (by decide), upm_same]
      unfold brG
      rw [if_pos (by omega), show 0 + (258 * n + t - 258 * n) = t by omega]
    · unfold upf
      rw [upm_ne _ _ (by decide), upm_same]
      unfold brG
      rw [if_neg (by omega)]
  · have e5 : n = 5 := by omega
    subst e5
    simp only [if_neg h5]
    rw [if_pos (by decide), b1, ob_some]
    unfold stF
    rw [ob_some, ob_some]
    have e4 : upf (upm v 4 (brG (v 4) (v 4) 258 0 1032)) 0 4 ((upm v 4 (brG (v 4) (v 4) 258 0 1032) 0 4) - 1) 0 4 = nI 4 := by
      unfold upf
      rw [upm_same, upd_s, upm_ne _ _ (by decide), h]
      decide
    rw [e4, b2 _ 4 (by decide), ob_some, ob_some]
    refine ⟨_, rfl, ?_, fun i hi => ?_, fun i h1 h2 => ?_, fun t ht => ?_, fun i t hi ht => ?_⟩
    · unfold upf
      rw [upm_same, upd_s, upm_ne _ _ (by decide), upm_same, upd_s, upm_ne _ _ (by decide), h]
      decide
    · unfold upf
      rw [upm_same, upd_n _ _ hi, upm_ne _ _ (by decide), upm_same, upd_n _ _ hi, upm_ne _ _ (by decide)]
    · unfold upf
      rw [upm_ne _ _ h1, upm_ne _ _ h2, upm_ne _ _ h1, upm_ne _ _ h2]
    · unfold upf
      rw [upm_ne _ _ (by decide), upm_same]
      unfold brG
      rw [if_pos (by omega), show 0 + (258 * 4 + t - 258 * 4) = t by omega, upm_ne _ _ (by decide), upm_ne _ _ (by decide)]
    · unfold upf
      rw [upm_ne _ _ (by decide), upm_same]
      show brG _ _ 0 (258 * 4) 258 (258 * i + t) = _
      unfold brG
      rw [if_neg (by omega), upm_ne _ _ (by decide), upm_same, if_pos (by omega), show 258 + (258 * i + t - 0) = 258 * (i + 1) + t by omega]
/-- what was done leaves a state -/
theorem settle_ok {u v : Mem} {k : Nat} (hk : k < 1000) (hD : DS u v) (hH : HS u v) (hC : CN u v) (hT : TX u v) (hb : DR u 1 (v 2) 0) (hbv : DV u 1) : ∃ u' v', X8_settled u (nI k) = some (nI k, u') ∧ X9_finish v (nI k) = some (nI k, v') ∧ Rel u' v' := by
  obtain ⟨n, q, n5, q5, c1, c2, c3, c4⟩ := hH
  obtain ⟨u1, k1, k2, k3, w, k4, k5⟩ := keep_ok q5 n5 c3 c1
  obtain ⟨v1, f1, f2, f3, f4, f5, f6⟩ := finish_ok n5 hk c2
  refine ⟨upf u1 61 5 1, v1, ?_, f1, ?_⟩
  · unfold X8_settled stF
    rw [if_pos (Int32.not_lt.mp (i_nn (by omega))), k1, ob_some, ob_some]
  have hu : ∀ i, (i < 31 ∨ (46 ≤ i ∧ i < 52) ∨ 57 ≤ i) → i ≠ 59 → i ≠ 61 → upf u1 61 5 1 i = u i := by
    intro i h1 h2 h3
    unfold upf
    rw [upm_ne _ _ h3, k5 i h2, k4.2.2.2 i (by omega) (by omega) (by omega) (by omega)]
  have hw : ∀ i, i ≠ 59 → i ≠ 61 → upf u1 61 5 1 i = w i := by
    intro i h2 h3
    unfold upf
    rw [upm_ne _ _ h3, k5 i h2]
  have h59 : upf u1 61 5 1 59 = u1 59 := by unfold upf; rw [upm_ne _ _ (by decide)]
  refine ⟨?_, ?_, ?_, ?_, ?_⟩
  · exact hD.same (hu 25 (by omega) (by decide) (by decide)) (hu 26 (by omega) (by decide) (by decide)) (hu 27 (by omega) (by decide) (by decide)) (hu 50 (by omega) (by decide) (by decide)) (f4 1 (by decide) (by decide))
  · -- the states
    refine ⟨(if n < 5 then n + 1 else 5), (q + 1) % 5, by split <;> omega, Nat.mod_lt _ (by decide), by rw [h59]; exact k3, f2, by rw [h59]; exact k2, fun i hi => ?_⟩
    -- a kept one, seen through the copy
    have old : ∀ j, j < n → slotN q n j ≠ q → DR (upf u1 61 5 1) (2 + slotN q n j) (v 4) (258 * j) ∧ DV (upf u1 61 5 1) (2 + slotN q n j) := by
      intro j hj hne
      obtain ⟨g1, g2⟩ := c4 j hj
      have hs : slotN q n j < 5 := Nat.mod_lt _ (by decide)
      have hrow : ∀ o, o < 3 → upf u1 61 5 1 (25 + (3 * (2 + slotN q n j) + o)) = u (25 + (3 * (2 + slotN q n j) + o)) := by
        intro o ho
        rw [hw _ (by omega) (by omega), k4.2.2.2 _ (by omega) (by omega) (by omega) (by omega)]
      have hdesk : upf u1 61 5 1 (50 + (2 + slotN q n j)) = u (50 + (2 + slotN q n j)) := by
        rw [hw _ (by omega) (by omega), k4.2.2.2 _ (by omega) (by omega) (by omega) (by omega)]
      exact ⟨g1.same hrow hdesk, g2.same hrow hdesk⟩
    have new : DR (upf u1 61 5 1) (2 + q) (v1 4) (258 * (if n < 5 then n else 4)) ∧ DV (upf u1 61 5 1) (2 + q) := by
      have a1 := (k4.dr hb).keep (g' := v1 4) (off' := 258 * (if n < 5 then n else 4)) (fun t ht => by rw [f5 t ht, Nat.zero_add])
      have a2 := k4.dv hbv
      exact ⟨a1.same (fun o ho => hw _ (by omega) (by omega)) (hw _ (by omega) (by omega)), a2.same (fun o ho => hw _ (by omega) (by omega)) (hw _ (by omega) (by omega))⟩
    by_cases h5 : n < 5
    · simp only [if_pos h5] at hi new f6 ⊢
      by_cases hl : i = n
      · have e : slotN ((q + 1) % 5) (n + 1) i = q := by
          subst hl
          unfold slotN
          by_cases hq : q = 4
          · subst hq; omega
          · rw [show (q + 1) % 5 = q + 1 by omega]; omega
        rw [e, hl]
        exact new
      · have e : slotN ((q + 1) % 5) (n + 1) i = slotN q n i := by
          unfold slotN
          by_cases hq : q = 4
          · subst hq; omega
          · rw [show (q + 1) % 5 = q + 1 by omega]; omega
        have hne : slotN q n i ≠ q := by
          unfold slotN
          omega
        rw [e]
        obtain ⟨g1, g2⟩ := old i (by omega) hne
        exact ⟨g1.keep (fun t ht => f6 i t (by omega) ht), g2⟩
    · have e5 : n = 5 := by omega
      subst e5
      simp only [if_neg h5] at hi new f6 ⊢
      by_cases hl : i = 4
      · have e : slotN ((q + 1) % 5) 5 i = q := by
          subst hl
          unfold slotN
          omega
        rw [e, hl]
        exact new
      · have e : slotN ((q + 1) % 5) 5 i = slotN q 5 (i + 1) := by
          unfold slotN
          omega
        have hne : slotN q 5 (i + 1) ≠ q := by
          unfold slotN
          omega
        rw [e]
        obtain ⟨g1, g2⟩ := old (i + 1) (by omega) hne
        exact ⟨g1.keep (fun t ht => f6 i t (by omega) ht), g2⟩
  · unfold CN
    rw [hu 58 (by omega) (by decide) (by decide), f4 5 (by decide) (by decide)]
    exact hC
  · unfold TX
    rw [hu 77 (by omega) (by decide) (by decide), hu 78 (by omega) (by decide) (by decide), f3 7 (by decide), f4 6 (by decide) (by decide)]
    exact hT
  · left
    unfold upf
    rw [upm_same, upd_s]
theorem CN.refuse {u v : Mem} (h : Rel u v) {r : Int32} (hr : r = -2 ∨ r = -3 ∨ r = -4) : ∃ u' v', X8_refuse u r = some (r, u') ∧ X9_refuse v r = some (r, v') ∧ Rel u' v' := by
  obtain ⟨hD, hH, hC, hT, hM⟩ := h
  have main : ∀ (a b : Nat), a < 10 → b < 3 → u 58 a = v 5 b → (∀ x : Int32, CN (upf u 58 a x) (upm v 5 (upd (v 5) b x))) → Rel (upf u 58 a (u 58 a + 1)) (upm v 5 (upd (v 5) b (v 5 b + 1))) := by
    intro a b ha hb hab hcn
    have hu : ∀ i, i ≠ 58 → upf u 58 a (u 58 a + 1) i = u i := fun i hi => by unfold upf; rw [upm_ne _ _ hi]
    have hv : ∀ i, i ≠ 5 → upm v 5 (upd (v 5) b (v 5 b + 1)) i = v i := fun i hi => upm_ne _ _ hi
    refine ⟨hD.same (hu _ (by decide)) (hu _ (by decide)) (hu _ (by decide)) (hu _ (by decide)) (hv _ (by decide)), hH.same (fun i hi => hu i (by omega)) (by rw [hv 0 (by decide)]) (hv 4 (by decide)), ?_, ?_, ?_⟩
    · have := hcn (v 5 b + 1)
      rw [hab]
      exact this
    · unfold TX
      rw [hu 77 (by decide), hu 78 (by decide), hv 0 (by decide), hv 6 (by decide)]
      exact hT
    · exact hM.same (by rw [hu 61 (by decide)]) (hu _ (by decide)) (hu _ (by decide)) (hu _ (by decide)) (hu _ (by decide)) (hu _ (by decide)) (hu _ (by decide)) (hu _ (by decide)) (hu _ (by decide)) (hu _ (by decide))
  unfold X8_refuse X9_refuse stF
  rcases hr with e | e | e <;> subst e
  · rw [if_pos rfl, ob_some, show (-2 : Int32) - (-2) = nI 0 from by decide, rd_ok (by decide) (by decide), ob_some, stI_ok (by decide) (by decide), ob_some]
    exact ⟨_, _, rfl, rfl, main 7 0 (by decide) (by decide) hC.1 (fun x => ⟨by unfold upf; rw [upm_same, upm_same, upd_s, upd_s], by unfold upf; rw [upm_same, upm_same, upd_n _ _ (by decide), upd_n _ _ (by decide)]; exact hC.2.1, by unfold upf; rw [upm_same, upm_same, upd_n _ _ (by decide), upd_n _ _ (by decide)]; exact hC.2.2⟩)⟩
  · rw [if_neg (by decide), if_pos rfl, ob_some, show (-2 : Int32) - (-3) = nI 1 from by decide, rd_ok (by decide) (by decide), ob_some, stI_ok (by decide) (by decide), ob_some]
    exact ⟨_, _, rfl, rfl, main 8 1 (by decide) (by decide) hC.2.1 (fun x => ⟨by unfold upf; rw [upm_same, upm_same, upd_n _ _ (by decide), upd_n _ _ (by decide)]; exact hC.1, by unfold upf; rw [upm_same, upm_same, upd_s, upd_s], by unfold upf; rw [upm_same, upm_same, upd_n _ _ (by decide), upd_n _ _ (by decide)]; exact hC.2.2⟩)⟩
  · rw [if_neg (by decide), if_neg (by decide), ob_some, show (-2 : Int32) - (-4) = nI 2 from by decide, rd_ok (by decide) (by decide), ob_some, stI_ok (by decide) (by decide), ob_some]
    exact ⟨_, _, rfl, rfl, main 9 2 (by decide) (by decide) hC.2.2 (fun x => ⟨by unfold upf; rw [upm_same, upm_same, upd_n _ _ (by decide), upd_n _ _ (by decide)]; exact hC.1, by unfold upf; rw [upm_same, upm_same, upd_n _ _ (by decide), upd_n _ _ (by decide)]; exact hC.2.1, by unfold upf; rw [upm_same, upm_same, upd_s, upd_s]⟩)⟩
