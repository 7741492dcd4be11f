/-! ===== PHASE B: alike ===== -/
def sameB (f g : Nat → Int32) (s : Nat) : Bool := decide (trF f s 0 = trF g s 0) && (decide (trF f s 1 = trF g s 1) && (decide (trF f s 2 = trF g s 2) && decide (trF f s 3 = trF g s 3)))
def shB (f g : Nat → Int32) (s : Nat) : Bool := hF f s && (hF g s && sameB f g s)
theorem isSame_ok {u : Mem} {a b s : Nat} (hs : s < 16) : X4_isSame u a (nI s) b = some (sameB (u (25 + a)) (u (25 + b)) s) := by
  have st : ∀ n w, w < 4 → X4_isSame_L2 a (nI s) b u (n + 1) (nI w) = if trF (u (25 + a)) s w = trF (u (25 + b)) s w then X4_isSame_L2 a (nI s) b u n (nI (w + 1)) else some false := by
    intro n w hw
    rw [X4_isSame_L2, if_neg (by rw [nlt_3 (by omega)]; omega), trait_ok hs (by omega), ob_some, trait_ok hs (by omega), ob_some, nar_1]
  have en : ∀ n, X4_isSame_L2 a (nI s) b u (n + 1) (nI 4) = some true := fun n => by rw [X4_isSame_L2, if_pos (by decide)]
  unfold X4_isSame sameB
  rw [show X4_isSame_L2 a (nI s) b u fu 0 = X4_isSame_L2 a (nI s) b u (4091 + 1 + 1 + 1 + 1 + 1) (nI 0) by rw [fu_s]; rfl]
  rw [st _ 0 (by decide), st _ 1 (by decide), st _ 2 (by decide), st _ 3 (by decide), en]
  by_cases e0 : trF (u (25 + a)) s 0 = trF (u (25 + b)) s 0
  · rw [if_pos e0]
    by_cases e1 : trF (u (25 + a)) s 1 = trF (u (25 + b)) s 1
    · rw [if_pos e1]
      by_cases e2 : trF (u (25 + a)) s 2 = trF (u (25 + b)) s 2
      · rw [if_pos e2]
        by_cases e3 : trF (u (25 + a)) s 3 = trF (u (25 + b)) s 3
        · rw [if_pos e3]; simp [e0, e1, e2, e3]
        · rw [if_neg e3]; simp [e3]
      · rw [if_neg e2]; simp [e2]
    · rw [if_neg e1]; simp [e1]
  · rw [if_neg e0]; simp [e0]
theorem countShared_ok {u : Mem} {a b : Nat} : X4_countShared u a b = some (nI (cnt (shB (u (25 + a)) (u (25 + b))) 16)) := by
  obtain ⟨r, h1, h2⟩ := lp_fu (fun n (y : Int32) z => X4_countShared_L4 a b u n y z) 0 16 (fun k y => y = nI (cnt (shB (u (25 + a)) (u (25 + b))) k)) (fun r => r = nI (cnt (shB (u (25 + a)) (u (25 + b))) 16)) 0 (by decide) (by decide) rfl
    (fun n y h => ⟨y, by rw [X4_countShared_L4, if_pos (by decide)], h⟩)
    (fun n y k hk hy => by
      left
      refine ⟨_, rfl, ?_⟩
      rw [X4_countShared_L4, if_neg (by rw [nle_16 (by omega)]; omega), holds_ok hk, ob_some, holds_ok hk, ob_some, isSame_ok hk, ob_some, hy, nar_1]
      have : (if b2i (hF (u (25 + a)) k) = 0 then some (0 : Int32) else if b2i (hF (u (25 + b)) k) = 0 then some 0 else if b2i (sameB (u (25 + a)) (u (25 + b)) k) = 0 then some 0 else some 1) = if b2i (shB (u (25 + a)) (u (25 + b)) k) = 0 then some 0 else some 1 := by
        unfold shB
        cases hF (u (25 + a)) k <;> cases hF (u (25 + b)) k <;> cases sameB (u (25 + a)) (u (25 + b)) k <;> rfl
      rw [this]
      exact cstep _ _ (fun z => X4_countShared_L4 a b u n z (nI (k + 1))))
  unfold X4_countShared
  rw [show X4_countShared_L4 a b u fu 0 0 = some r from h1, h2]; rfl
theorem ralike_ok {v : Mem} {f g : Nat → Int32} {a b : Nat} (ha : a < 4) (hb : b < 4) (hf : RR f (v 1) (64 * a)) (hg : RR g (v 1) (64 * b)) : X9_alike_L28 (nI a) (nI b) v fu 0 0 = some (nI (cnt (shB f g) 16)) := by
  obtain ⟨r, h1, h2⟩ := lp_fu (fun n (y : Int32) z => X9_alike_L28 (nI a) (nI b) v n y z) 0 16 (fun k y => y = nI (cnt (shB f g) k)) (fun r => r = nI (cnt (shB f g) 16)) 0 (by decide) (by decide) rfl
    (fun n y h => ⟨y, by rw [X9_alike_L28, if_pos (by decide)], h⟩)
    (fun n y k hk hy => by
      left
      refine ⟨_, rfl, ?_⟩
      rw [X9_alike_L28, if_neg (by rw [nle_16 (by omega)]; omega), rIn rfl rfl ha hk, ob_some, rr_h hf hk, rPar rfl rfl ha hk, rPar rfl rfl hb hk, rPla rfl rfl ha hk, rPla rfl rfl hb hk, rNam rfl rfl ha hk, rNam rfl rfl hb hk, rTex rfl rfl ha hk, rTex rfl rfl hb hk, hy, nar_1]
      simp only [ob_some]
      have key : ((if b2i (hF f k) = 0 then some (0 : Int32) else if v 1 (64 * a + k) = v 1 (64 * b + k) then (if v 1 (64 * a + 16 + k) = v 1 (64 * b + 16 + k) then some 1 else some 0) else some 0).bind fun x12 => (if x12 = 0 then some (0 : Int32) else if v 1 (64 * a + 32 + k) = v 1 (64 * b + 32 + k) then (if v 1 (64 * a + 48 + k) = v 1 (64 * b + 48 + k) then some 1 else some 0) else some 0)) = if b2i (shB f g k) = 0 then some 0 else some 1 := by
        unfold shB sameB
        cases h1 : hF f k
        · rfl
        · obtain ⟨-, a9, a0, a1, a2, a3⟩ := rr_yes hf hk h1
          rw [if_neg bt_t]
          cases h2 : hF g k
          · have := (rr_no hg hk h2).2
            rw [this, if_neg a9, ob_some, if_pos rfl]; rfl
          · obtain ⟨-, b9, b0, b1, b2, b3⟩ := rr_yes hg hk h2
            rw [trF_here h1, trF_here h1, trF_here h1, trF_here h1, trF_here h2, trF_here h2, trF_here h2, trF_here h2, show 16 * 0 + k = k by omega, show 16 * 1 + k = 16 + k by omega, show 16 * 2 + k = 32 + k by omega, show 16 * 3 + k = 48 + k by omega, a0, a1, a2, a3, b0, b1, b2, b3]
            by_cases e0 : v 1 (64 * a + k) = v 1 (64 * b + k)
            · rw [if_pos e0]
              by_cases e1 : v 1 (64 * a + 16 + k) = v 1 (64 * b + 16 + k)
              · rw [if_pos e1, ob_some, if_neg (by decide)]
                by_cases e2 : v 1 (64 * a + 32 + k) = v 1 (64 * b + 32 + k)
                · rw [if_pos e2]
                  by_cases e3 : v 1 (64 * a + 48 + k) = v 1 (64 * b + 48 + k)
                  · rw [if_pos e3]; simp [e0, e1, e2, e3, b2i]
                  · rw [if_neg e3]; simp [e3, b2i]
                · rw [if_neg e2]; simp [e2, b2i]
              · rw [if_neg e1, ob_some, if_pos rfl]; simp [e1, b2i]
            · rw [if_neg e0, ob_some, if_pos rfl]; simp [e0, b2i]
      rw [← Option.bind_assoc, key]
      exact cstep _ _ (fun z => X9_alike_L28 (nI a) (nI b) v n z (nI (k + 1))))
  rw [show X9_alike_L28 (nI a) (nI b) v fu 0 0 = some r from h1, h2]
theorem st_alike {u v : Mem} (h : Rel u v) (a b : Int32) : St (X8_alike u a b) (X9_alike v a b) := by
  unfold X8_alike X9_alike
  rcases ask_cases h a with ⟨c1, c2⟩ | ⟨o, u', v', o4, rfl, c1, c2, c3, c4, c5, c6, c7⟩
  · rw [c1, ob_some, if_pos bt_f, c2, ob_2, if_pos bt_f]
    exact st_bad h (Or.inl rfl)
  · rw [c1, ob_some, if_neg bt_t, c3, ob_2, if_neg bt_t]
    rcases ask_cases c4 b with ⟨d1, d2⟩ | ⟨q, u2, v2, q4, rfl, d1, d2, d3, d4, d5, d6, d7⟩
    · rw [d1, ob_some, if_pos bt_f, d2, ob_2, if_pos bt_f]
      exact st_bad c5 (Or.inl rfl)
    · rw [d1, ob_some, if_neg bt_t, c2, ob_2, d2, ob_2, d3, ob_2, if_neg bt_t]
      have hm : o = 3 → Mg u2 v2 := by
        intro z
        by_cases e : q = 3
        · exact d6 e
        · obtain ⟨e1, e2⟩ := d7 (by omega)
          rw [e1, e2]; exact c6 z
      obtain ⟨hR, -⟩ := row_any d4 o4 hm
      obtain ⟨hR2, -⟩ := row_any d4 q4 d6
      rw [countShared_ok, ob_some, ralike_ok o4 q4 hR hR2, ob_some]
      exact ⟨_, u2, v2, rfl, rfl, d4⟩
/-! ===== PHASE B: adopts ===== -/
theorem st_adopts {u v : Mem} (h : Rel u v) : St (X8_adopts u) (X9_adopts v) := by
  obtain ⟨u1, k1, k2⟩ := copy_ok u (d := 1) (e := 0) (by decide) (by decide) (by decide)
  have fu1 : ∀ i, i ≠ 28 → i ≠ 29 → i ≠ 30 → i ≠ 51 → u1 i = u i := fun i a b c d => k2.2.2.2 i a b c d
  have fv1 : ∀ i, i ≠ 2 → upm v 2 (brG (v 1) (v 2) 0 0 258) i = v i := fun i hi => upm_ne _ _ hi
  have hR1 : Rel u1 (upm v 2 (brG (v 1) (v 2) 0 0 258)) := h.frame (fun i hi => fu1 i (by omega) (by omega) (by omega) (by omega)) (by rw [fu1 61 (by decide) (by decide) (by decide) (by decide)]) (by rw [fu1 77 (by decide) (by decide) (by decide) (by decide)]) (fun i _ => by rw [fv1 1 (by decide)]) (fun i hi => fv1 i (by omega)) (by rw [fv1 0 (by decide)]) (by rw [fv1 0 (by decide)])
  have hb : DR u1 1 (upm v 2 (brG (v 1) (v 2) 0 0 258) 2) 0 := by
    rw [upm_same]
    exact (k2.dr h.1.1).keep (fun i hi => by unfold brG; rw [if_pos (by omega)]; simp)
  have hbv : DV u1 1 := k2.dv h.1.2
  unfold X8_adopts X9_adopts
  rw [k1, ob_some, save_ok, ob_some]
  generalize upm v 2 (brG (v 1) (v 2) 0 0 258) = v1 at *
  obtain ⟨u2, v2, e1, e2, e3, ⟨m1, m2, -, m4⟩, e5, e6⟩ := asked hR1
  have ho : X8_outline u1 3 = some (24, u2) := by
    unfold X8_outline
    rw [if_pos rfl, e1]; rfl
  have b1 : X9_bring v2 1 192 1 0 64 = some (upm v2 1 (brG (v2 1) (v2 1) 192 0 64)) := bring_ok (i := 192) (j := 0) (m := 64) rfl rfl rfl (by decide) (by decide) (by decide) (by decide) (by omega)
  rw [ho, ob_2, e2, ob_some, b1, ob_some]
  have hb2 : DR u2 1 (v2 2) 0 := by
    rw [e6.1 2 (by decide) (by decide) (by decide)]
    exact hb.same (fun o ho => e5 _ (by omega) (by omega) (by omega) (by omega) (by omega) (by omega) (by omega) (by omega) (by omega) (by omega) (by omega) (by omega)) (e5 _ (by omega) (by omega) (by omega) (by omega) (by omega) (by omega) (by omega) (by omega) (by omega) (by omega) (by omega) (by omega))
  have hbv2 : DV u2 1 := hbv.same (fun o ho => e5 _ (by omega) (by omega) (by omega) (by omega) (by omega) (by omega) (by omega) (by omega) (by omega) (by omega) (by omega) (by omega)) (e5 _ (by omega) (by omega) (by omega) (by omega) (by omega) (by omega) (by omega) (by omega) (by omega) (by omega) (by omega) (by omega))
  let u3 : Mem := upm u2 25 (va_cpy (u2 49) (u2 25) 0 0 80)
  let v3 : Mem := upm v2 1 (brG (v2 1) (v2 1) 192 0 64)
  have u3o : ∀ i, i ≠ 25 → u3 i = u2 i := fun i hi => upm_ne _ _ hi
  have v3o : ∀ i, i ≠ 1 → v3 i = v2 i := fun i hi => upm_ne _ _ hi
  have v31 : v3 1 = brG (v2 1) (v2 1) 192 0 64 := upm_same _ _ _
  have vhi : ∀ i, 64 ≤ i → v3 1 i = v2 1 i := fun i hi => by
    rw [v31]; unfold brG; rw [if_neg (by omega)]
  obtain ⟨n, n1, n16, n4, n5, -⟩ := e3.1.fr
  obtain ⟨r, u4, v4, f1, f2, ⟨nn, hnn, hr⟩, f3, f4, f5⟩ := fork_ok (u := u3) (v := v3) (f := u2 49) (by
      show E80 (u2 49) (upm u2 25 (va_cpy (u2 49) (u2 25) 0 0 80) 25)
      rw [upm_same]
      exact cpy80 _ _) m2 (rr_shift m1 (fun i hi => by
        rw [v31]; unfold brG
        rw [if_pos (by omega), show 192 + (0 + i - 0) = 192 + i by omega])) (by rw [u3o 50 (by decide), vhi 256 (by decide)]; exact e3.1.1.2.1) (by rw [u3o 50 (by decide), vhi 257 (by decide)]; exact e3.1.1.2.2) (by rw [u3o 50 (by decide)]; exact e3.1.2.2.1) ⟨n, n1, n16, by rw [u3o 50 (by decide)]; exact n4, fun k a b => m4 n k n4 n16 a b⟩
  have hadopt : X0_adopt u2 0 24 = some (r, u4) := by
    unfold X0_adopt X4_copyFrom cpO
    rw [ob_some, ob_some, show X0_fork (upm u2 (25 + 3 * 0) (va_cpy (u2 (25 + 24)) (u2 (25 + 3 * 0)) 0 0 80)) 0 = some (r, u4) from f1]; rfl
  rw [hadopt, ob_2, show X9_fork (upm v2 1 (brG (v2 1) (v2 1) 192 0 64)) = some (r, v4) from f2, ob_2]
  have g : ∀ i, i ≠ 25 → i ≠ 26 → i ≠ 27 → i ≠ 50 → u4 i = u2 i := fun i a b c d => by rw [f4 i a b c d, u3o i a]
  have gv : ∀ i, i ≠ 1 → v4 i = v2 i := fun i hi => by rw [f5 i hi, v3o i hi]
  have hH := e3.2.1.same (u' := u4) (v' := v4) (fun i hi => g i (by omega) (by omega) (by omega) (by omega)) (by rw [gv 0 (by decide)]) (gv 4 (by decide))
  have hC : CN u4 v4 := by
    unfold CN
    rw [g 58 (by decide) (by decide) (by decide) (by decide), gv 5 (by decide)]
    exact e3.2.2.1
  have hT : TX u4 v4 := by
    unfold TX
    rw [g 77 (by decide) (by decide) (by decide) (by decide), g 78 (by decide) (by decide) (by decide) (by decide), gv 0 (by decide), gv 6 (by decide)]
    exact e3.2.2.2.1
  have hb3 : DR u4 1 (v4 2) 0 := by
    rw [gv 2 (by decide)]
    exact hb2.same (fun o ho => g _ (by omega) (by omega) (by omega) (by omega)) (g _ (by omega) (by omega) (by omega) (by omega))
  have hbv3 : DV u4 1 := hbv2.same (fun o ho => g _ (by omega) (by omega) (by omega) (by omega)) (g _ (by omega) (by omega) (by omega) (by omega))
  subst hr
  obtain ⟨u', v', b1, b2, b3⟩ := settle_ok hnn f3 hH hC hT hb3 hbv3
  exact ⟨nI nn, u', v', by rw [b1]; rfl, by rw [b2]; rfl, b3⟩
