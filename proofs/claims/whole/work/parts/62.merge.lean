/-! ===== PHASE B: merging, whole ===== -/
theorem reset_ok (f : Nat → Int32) : ∃ g, X4_reset f = some g ∧ g 0 = -1 ∧ g 16 = 0 ∧ ∀ j, j < 16 → g (64 + j) = if j = 0 then 1 else 0 := by
  obtain ⟨r, hL, hr⟩ := lp_fu (fun n (y : Nat → Int32) z => X4_reset_L2 n z y) 0 80 (fun k y => ∀ j, j < k → y j = 0) (fun r => ∀ j, j < 80 → r j = 0) f (by decide) (by decide) (fun j hj => by omega)
    (fun n y h => ⟨y, by rw [X4_reset_L2, if_pos (by decide)], h⟩)
    (fun n y k hk h => by
      left
      refine ⟨upd y k 0, fun j hj => ?_, ?_⟩
      · by_cases e : j = k
        · rw [e, upd_s]
        · rw [upd_n _ _ e]; exact h j (by omega)
      · rw [X4_reset_L2, if_neg (by rw [nle_80 (by omega)]; omega), wr_ok hk (by decide), ob_some, nar_1])
  unfold X4_reset
  rw [show X4_reset_L2 fu 0 f = some r from hL, ob_some, show X4_put r 0 4 1 = some (upd r (16 * 4 + 0) 1) from put_ok (k := 0) (w := 4) (by decide) (by decide), ob_some, show X4_put (upd r (16 * 4 + 0) 1) 0 0 (-1) = some (upd (upd r (16 * 4 + 0) 1) (16 * 0 + 0) (-1)) from put_ok (k := 0) (w := 0) (by decide) (by decide), ob_some]
  refine ⟨_, rfl, upd_s _ _ _, ?_, fun j hj => ?_⟩
  · rw [upd_n _ _ (by decide), upd_n _ _ (by decide)]; exact hr 16 (by decide)
  · rw [upd_n _ _ (by omega)]
    by_cases e : j = 0
    · subst e; rw [upd_s, if_pos rfl]
    · rw [upd_n _ _ (by omega), if_neg e]; exact hr _ (by omega)
def FRm (u u' : Mem) : Prop := ∀ i, i ≠ 46 → i ≠ 47 → i ≠ 48 → i ≠ 49 → i ≠ 57 → i ≠ 61 → i ≠ 62 → i ≠ 63 → i ≠ 64 → i ≠ 65 → i ≠ 66 → i ≠ 67 → u' i = u i
theorem merge_ok {u v : Mem} (hD : DS u v) (hold : u 61 5 = 1) : ∃ u' v', X3_refresh u 0 = some u' ∧ X9_merge v = some v' ∧ RR (u' 49) (v' 1) 192 ∧ Val (u' 49) ∧ (∃ n, n ≤ 112 ∧ MC u' v' n) ∧ FRm u u' ∧ u' 61 5 = 0 ∧ FN v v' ∧ ∀ n k, u 50 4 = nI n → n ≤ 16 → n ≤ k → k < 16 → hF (u' 49) k = false := by
  obtain ⟨u2, c1, c2⟩ := copy_ok (upf u 61 5 0) (d := 7) (e := 0) (by decide) (by decide) (by decide)
  obtain ⟨g, g1, g2, g3, g4⟩ := reset_ok (u2 49)
  have m1 : ∀ i, i ≠ 61 → upf u 61 5 0 i = u i := fun i hi => upm_ne _ _ hi
  have k46 : ∀ o, o < 3 → E80 (u (25 + o)) (u2 (46 + o)) := fun o ho => by
    have := c2.1 o ho
    rw [m1 _ (by omega), show 25 + (3 * 0 + o) = 25 + o by omega, show 25 + (3 * 7 + o) = 46 + o by omega] at this
    exact this
  have k57 : u2 57 3 = u 50 3 := by
    have := c2.2.1
    rw [m1 _ (by omega)] at this
    exact this
  have k61 : u2 61 5 = 0 := by
    rw [c2.2.2.2 61 (by decide) (by decide) (by decide) (by decide)]
    unfold upf
    rw [upm_same, upd_s]
  have ko : ∀ i, i ≠ 46 → i ≠ 47 → i ≠ 48 → i ≠ 57 → i ≠ 61 → u2 i = u i := fun i a b c d e => by
    rw [c2.2.2.2 i a b c d, m1 i e]
  let u4 : Mem := upf (upm u2 49 g) 64 3 0
  let v1 : Mem := upf v 0 13 0
  have u4o : ∀ i, i ≠ 49 → i ≠ 64 → u4 i = u2 i := fun i a b => by
    show upf (upm u2 49 g) 64 3 0 i = _
    unfold upf
    rw [upm_ne _ _ b, upm_ne _ _ a]
  have u49 : u4 49 = g := by
    show upf (upm u2 49 g) 64 3 0 49 = _
    unfold upf
    rw [upm_ne _ _ (by decide), upm_same]
  have v1o : ∀ i, i ≠ 0 → v1 i = v i := fun i hi => upm_ne _ _ hi
  have v10 : v1 0 = upd (v 0) 13 0 := upm_same _ _ _
  obtain ⟨p, hp, hp3⟩ : ∃ p, (p = 1 ∨ p = 2) ∧ u 50 3 = nI p := by
    rcases hD.2.2.1 with z | z
    · exact ⟨1, Or.inl rfl, z⟩
    · exact ⟨2, Or.inr rfl, z⟩
  have hB : MB u4 v1 p := by
    refine ⟨fun o ho => ?_, hp, ?_, ?_⟩
    · rw [u4o _ (by omega) (by omega), v1o 1 (by decide)]
      exact ⟨(k46 o ho).rr (hD.rr ho), (k46 o ho).val (hD.val ho)⟩
    · rw [u4o _ (by omega) (by omega), k57]; exact hp3
    · rw [v1o 1 (by decide)]
      have := hD.1.2.1
      rw [show 50 + 0 = 50 from rfl, hp3] at this
      exact this.symm
  have hMC : MC u4 v1 0 := ⟨by
    show upf (upm u2 49 g) 64 3 0 64 3 = nI 0
    unfold upf
    rw [upm_same, upd_s]; rfl, by rw [v10]; exact upd_s _ _ _, fun k hk => by omega⟩
  obtain ⟨u5, v5, x5, y5, j5⟩ := stA hB hMC (by rw [u49]; exact g4) (by rw [u49]; exact g2) (by rw [u49]; exact g3)
  obtain ⟨u8, v8, x8, y8, j8⟩ := stBCD hB j5
  obtain ⟨u9, v9, x9, y9, j9, h9⟩ := stE hB (Jt.hung hB j8).1 (Jt.hung hB j8).2
  obtain ⟨u10, v10', x10, y10, j10, h10, n10⟩ := stFx hB j9 h9
  obtain ⟨u', v', x11, y11, z1, z2, z3, z4, z5, z6⟩ := stG hB j10 h10 n10
  refine ⟨u', v', ?_, ?_, z1, z2, z5, fun i a1 a2 a3 a4 a5 a6 a7 a8 a9 b1 b2 b3 => ?_, ?_, ?_, ?_⟩
  · unfold X3_refresh stF
    rw [if_neg (by rw [hold]; decide), ob_some, c1, ob_some]
    unfold stO
    rw [g1, ob_some, ob_some]
    unfold X6_wipe stF
    rw [ob_some, ob_some]
    rw [show X3_chooseSections (upf (upm u2 49 g) (64 + 4 * 0) 3 0) = some u5 from x5, ob_some]
    cases t1 : X3_chooseTraits u5 2 0 with
    | none => rw [t1] at x8; cases x8
    | some m6 =>
      rw [t1, ob_some] at x8
      rw [ob_some]
      cases t2 : X3_chooseTraits m6 3 1 with
      | none => rw [t2] at x8; cases x8
      | some m7 =>
        rw [t2, ob_some] at x8
        rw [ob_some, x8, ob_some, x9, ob_some, x10, ob_some, x11]; rfl
  · unfold X9_merge stF
    rw [ob_some, show X9_merge_L7 fu 0 (upf v 0 13 0) = some v5 from y5, ob_some, y8, ob_some, y9, ob_some, y10, ob_some]
    cases t1 : stI 258 v10' 1 208 0 with
    | none => rw [t1] at y11; cases y11
    | some m6 =>
      rw [t1, ob_some] at y11
      rw [ob_some, y11]; rfl
  · rw [z3 i a4 a7 a8 a9 b1 b2 b3, u4o i a4 a9, ko i a1 a2 a3 a5 a6]
  · rw [z3 61 (by decide) (by decide) (by decide) (by decide) (by decide) (by decide) (by decide), u4o 61 (by decide) (by decide)]; exact k61
  · refine FN.tr ⟨fun i a _ _ => v1o i a, fun i hi => by rw [v10, upd_n _ _ hi], fun i _ => by rw [v1o 1 (by decide)]⟩ z4
  · intro n k hn n16 h1 h2
    rw [z6 k h2]
    obtain ⟨n', a, b, c, d, e⟩ := hD.fr
    rw [hn] at c
    have : n = n' := i_inj (by omega) (by omega) c
    subst this
    have f : ∀ o, o < 3 → hF (u4 (46 + o)) k = false := fun o ho => by
      rw [u4o _ (by omega) (by omega), (k46 o ho).hF h2]
      exact e o k ho h1 h2
    have f0 : hF (u4 46) k = false := f 0 (by decide)
    have f1 : hF (u4 47) k = false := f 1 (by decide)
    have f2 : hF (u4 48) k = false := f 2 (by decide)
    unfold inM
    rw [f0, f1, f2]; rfl
/-- MERGED is asked for, on both sides -/
def Mg (u' v' : Mem) : Prop := RR (u' 49) (v' 1) 192 ∧ Val (u' 49) ∧ (∃ n, n ≤ 112 ∧ MC u' v' n) ∧ ∀ n k, u' 50 4 = nI n → n ≤ 16 → n ≤ k → k < 16 → hF (u' 49) k = false
theorem asked {u v : Mem} (h : Rel u v) : ∃ u' v', X3_refresh u 0 = some u' ∧ X9_merge v = some v' ∧ Rel u' v' ∧ Mg u' v' ∧ FRm u u' ∧ FN v v' := by
  obtain ⟨hD, hH, hC, hT, hM⟩ := h
  rcases hM with hold | ⟨hnew, u0, u1, q1, q2, q3, q4, q5, q6, q7, q8, q9, q10, q11, q12⟩
  · obtain ⟨u', v', e1, e2, e3, e4, e5, e6, e7, e8, e9⟩ := merge_ok hD hold
    have fo : ∀ i, (i < 46 ∨ (49 < i ∧ i < 57) ∨ (57 < i ∧ i < 61) ∨ 67 < i) → u' i = u i := fun i hi => e6 i (by omega) (by omega) (by omega) (by omega) (by omega) (by omega) (by omega) (by omega) (by omega) (by omega) (by omega) (by omega)
    refine ⟨u', v', e1, e2, ⟨?_, ?_, ?_, ?_, ?_⟩, ⟨e3, e4, e5, by rw [fo 50 (by omega)]; exact e9⟩, e6, e8⟩
    · exact (hD.keepv (v' := v') e8.2.2).same (fo _ (by omega)) (fo _ (by omega)) (fo _ (by omega)) (fo _ (by omega)) rfl
    · exact hH.same (fun i hi => fo i (by omega)) (e8.2.1 4 (by decide)) (e8.1 4 (by decide) (by decide) (by decide))
    · unfold CN
      rw [fo 58 (by omega), e8.1 5 (by decide) (by decide) (by decide)]; exact hC
    · unfold TX
      rw [fo 77 (by omega), fo 78 (by omega), e8.2.1 7 (by decide), e8.1 6 (by decide) (by decide) (by decide)]; exact hT
    · right
      refine ⟨e7, u, u', ?_, ?_, ?_, ?_, ?_, hold, e1, rfl, rfl, rfl, rfl, rfl⟩
      · rw [fo 25 (by omega)]; exact fun _ _ => rfl
      · rw [fo 26 (by omega)]; exact fun _ _ => rfl
      · rw [fo 27 (by omega)]; exact fun _ _ => rfl
      · rw [fo 50 (by omega)]
      · rw [fo 50 (by omega)]
  · have hD0 : DS u0 v := by
      have q : ∀ o, o < 3 → E80 (u (25 + o)) (u0 (25 + o)) := by
        intro o ho
        rcases (show o = 0 ∨ o = 1 ∨ o = 2 by omega) with e | e | e
        · subst e; exact fun i hi => (q1 i hi).symm
        · subst e; exact fun i hi => (q2 i hi).symm
        · subst e; exact fun i hi => (q3 i hi).symm
      obtain ⟨n, a, b, c, d, e⟩ := hD.fr
      refine DS.mk (fun o ho => (q o ho).rr (hD.rr ho)) (fun o ho => (q o ho).val (hD.val ho)) ?_ ?_ ?_ ⟨n, a, b, by rw [← q5]; exact c, fun o k ho h1 h2 => by rw [(q o ho).hF h2]; exact e o k ho h1 h2⟩
      · rw [← q4]; exact hD.1.2.1
      · rw [← q5]; exact hD.1.2.2
      · rw [← q4]; exact hD.2.2.1
    obtain ⟨u', v', e1, e2, e3, e4, e5, e6, e7, e8, e9⟩ := merge_ok hD0 q6
    have : u' = u1 := Option.some.inj (e1.symm.trans q7)
    subst this
    rw [q8] at e3 e4 e9
    have hx : X3_refresh u 0 = some u := by unfold X3_refresh; rw [if_pos hnew]
    refine ⟨u, v', hx, e2, ⟨?_, ?_, ?_, ?_, ?_⟩, ⟨e3, e4, ?_, by rw [q5]; exact e9⟩, fun _ _ _ _ _ _ _ _ _ _ _ _ _ => rfl, e8⟩
    · exact hD.keepv (v' := v') e8.2.2
    · exact hH.same (fun i hi => rfl) (e8.2.1 4 (by decide)) (e8.1 4 (by decide) (by decide) (by decide))
    · unfold CN
      rw [e8.1 5 (by decide) (by decide) (by decide)]; exact hC
    · unfold TX
      rw [e8.2.1 7 (by decide), e8.1 6 (by decide) (by decide) (by decide)]; exact hT
    · exact Or.inr ⟨hnew, u0, u', q1, q2, q3, q4, q5, q6, q7, q8, q9, q10, q11, q12⟩
    · obtain ⟨n, hn, hm⟩ := e5
      refine ⟨n, hn, ?_⟩
      unfold MC at hm ⊢
      rw [q9, q10, q11, q12] at hm
      exact hm
