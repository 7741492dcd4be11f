/-! ===== PHASE B: move, retell, delete, fork, prefer ===== -/
theorem act_move {u v : Mem} (h : DS u v) (p1 p2 p3 p4 : Int32) : Act u v (X0_move u 0 p1 p2 p3 p4) (X9_move v p1 p2 p3 p4) := by
  unfold X0_move X9_move
  rcases own_cases p1 with ⟨e1, e2⟩ | ⟨o, ho, rfl, e1, e2⟩
  · rw [e1, e2]; exact Act.bad rfl rfl
  rw [e1, e2, ob_some, if_neg bt_t, ob_some, if_neg bt_t]
  have hR := h.rr ho
  have hV := h.val ho
  rcases there_cases (x := nI o) rfl (by omega) hR p2 with ⟨t1, t2⟩ | ⟨s, hs, rfl, hh, t1, t2⟩
  · rw [t2, ob_some, if_pos bt_f]
    refine Act.bad ?_ rfl
    by_cases z : p2 = 0
    · rw [if_pos z]
    · rw [if_neg z, outl_ok u ho, ob_some, t1]; rfl
  rw [t2, ob_some, if_neg bt_t]
  by_cases h0 : s = 0
  · subst h0
    rw [if_pos nI_0, if_pos nI_0]
    exact Act.bad rfl rfl
  have z0 : ¬ nI s = 0 := by rw [neq_0 (by omega)]; exact h0
  rw [if_neg z0, if_neg z0, outl_ok u ho, ob_some, t1, ob_some, if_neg bt_t]
  rcases there_cases (x := nI o) rfl (by omega) hR p3 with ⟨q1, q2⟩ | ⟨p, hp, rfl, hpp, q1, q2⟩
  · rw [q1, q2]; exact Act.bad rfl rfl
  have hc16 : cnt (fun s => chF (u (25 + o)) s (nI p)) 16 ≤ 16 := cnt_le _ _
  rw [q1, q2, ob_some, if_neg bt_t, ob_some, if_neg bt_t, childCount_ok, ob_some, isChild_ok hs, ob_some, rKids rfl (by omega) hR (i_m9 (by omega)), ob_some, rPar rfl rfl (by omega) hs, ob_some]
  obtain ⟨hc0, -⟩ := hV.pl (by omega) hs hh
  obtain ⟨hp1, hp2, hp3⟩ := hV.1.par (by omega) hs hh
  have hgp : v 1 (64 * o + s) = nI (PF (u (25 + o)) s) := by rw [← (rr_yes hR hs hh).2.2.1]; exact hp1
  -- how many are left
  have hleft : ∃ c, c = cnt (fun x => chF (deF (u (25 + o)) s) x (nI p)) 16 ∧ c ≤ 16 ∧ ((if b2i (chF (u (25 + o)) s (nI p)) = 0 then some (0 : Int32) else some 1).bind fun x7 => some (nI (cnt (fun s => chF (u (25 + o)) s (nI p)) 16) - x7)) = some (nI c) ∧ ((if v 1 (64 * o + s) = nI p then some (1 : Int32) else some 0).bind fun x6 => some (nI (cnt (fun s => chF (u (25 + o)) s (nI p)) 16) - x6)) = some (nI c) := by
    refine ⟨_, rfl, cnt_le _ _, ?_⟩
    by_cases e : PF (u (25 + o)) s = p
    · subst e
      have hd := (de_Pl hs hc0 (i_m1 (by omega)) (hV.2.2.2.1 _ hp)).2
      rw [hc0, if_neg bt_t, hgp, if_pos rfl, ob_some, show (1 : Int32) = nI 1 from rfl, i_sub (by omega), ← hd, Nat.add_sub_cancel]
      exact ⟨rfl, rfl⟩
    · have hne : nI (PF (u (25 + o)) s) ≠ nI p := fun z => e (i_inj (by omega) (by omega) z)
      have hd := (de_Pl_o hs hc0 hne (i_m1 (by omega)) (hV.2.2.2.1 p hp)).2
      have hcf : chF (u (25 + o)) s (nI p) = false := by
        rw [← Bool.not_eq_true]
        intro z
        exact hne (hp1.symm.trans (ch_h z).2.2)
      rw [hcf, if_pos bt_f, hgp, if_neg hne, ob_some, show (0 : Int32) = nI 0 from rfl, i_sub (by omega), hd, Nat.sub_zero]
      exact ⟨rfl, rfl⟩
  obtain ⟨c, hc1, hc2, hc3, hc4⟩ := hleft
  have lift : ∀ (A : Option Int32) (a : Int32) (m : Nat) (F : Int32 → Option (Int32 × Mem)), (A.bind fun x => some (a - x)) = some (nI m) → (A.bind fun x => F (a - x)) = F (nI m) := by
    intro A a m F hA
    cases A with
    | none => cases hA
    | some x =>
      have : a - x = nI m := Option.some.inj hA
      show F (a - x) = F (nI m)
      rw [this]
  rw [lift _ _ c (fun y => if p4 < 0 then some (-2, u) else if p4 ≤ y then (X4_isBelow (u (25 + o)) (nI p) (nI s)).bind fun r9 => if b2i r9 = 0 then (X4_trait (u (25 + o)) (nI s) 1).bind fun r10 => (stO u (25 + o) (X4_detach (u (25 + o)) (nI s))).bind fun mu11 => (stO mu11 (25 + o) (X4_attach (mu11 (25 + o)) (nI s) (nI p) p4)).bind fun mu12 => some (r10, mu12) else some (-3, u) else some (-2, u)) hc3,
    lift _ _ c (fun y => (X9_in p4 0 y).bind fun r8 => if b2i r8 = 0 then some (-2, v) else (X9_belowOf v (nI o) (nI s)).bind fun r9 => if (r9 >>> (nI p &&& 31)) &&& 1 = 1 then some (-3, v) else (X9_placeOf v (nI o) (nI s)).bind fun r10 => (X9_unhang v (nI o) (nI s)).bind fun mu11 => (X9_hang mu11 (nI o) (nI s) (nI p) p4).bind fun mu12 => some (r10, mu12)) hc4]
  rcases in_cases p4 (n := c) (by omega) with ⟨i1, i2⟩ | ⟨k, hk, rfl, i2⟩
  · rw [i2, ob_some, if_pos bt_f]
    refine Act.bad ?_ rfl
    by_cases i3 : p4 < 0
    · rw [if_pos i3]
    · rw [if_neg i3, if_neg (i1.resolve_left i3)]
  rw [i2, ob_some, if_neg bt_t, if_neg (i_nn (by omega)), if_pos (by rw [c_le (by omega) (by omega)]; exact hk), isBelow_ok hV.1 hp hpp hs, ob_some, rBel rfl rfl (by omega) hR hV.1 hV.2.1 hs hh, ob_some]
  have hbit : ((nI (bsN (u (25 + o)) 15 s) >>> (nI p &&& 31)) &&& 1 = 1) = (belN (PF (u (25 + o))) 16 p s = true) := by
    rw [bt_is (bsN_lt _ _ _) hp, bsN_bit _ _ _ hp, hpp]
    simp
  cases hb : belN (PF (u (25 + o))) 16 p s
  · rw [if_pos bt_f, if_neg (by rw [hbit, hb]; decide), show (X4_trait (u (25 + o)) (nI s) 1) = _ from trait_ok (w := 1) hs (by decide), ob_some, trF_here hh, rPla rfl rfl (by omega) hs, ob_some, unhang_ok rfl (by omega) rfl hs, ob_some, hang_ok rfl (by omega) rfl hs, ob_some]
    unfold stO
    simp only [detach_ok hs, attach_ok hs, ob_some, upm_same, upm_upm]
    obtain ⟨-, q, q3, q4⟩ := hV.pl (by omega) hs hh
    rw [show 16 * 1 + s = 16 + s by omega, ← (rr_yes hR hs hh).2.2.2.1, q4]
    refine ⟨nI q, _, _, rfl, rfl, Or.inr ⟨⟨q, by omega, rfl⟩, ?_, FX.upm ho, FY.upm⟩⟩
    refine h.upd1 ho (Val_move hV (by omega) hs hh hp hpp hb (by rw [← hc1]; exact hk)) (rr_move hR (by omega) hs hh (i_m9 (by omega))) (fun i hi => ?_) (fun x hx hx1 => ?_)
    · rw [ha_out hs (by omega), un_out hs (by omega)]
    · rw [at_h hs hx, de_h hs hx] at hx1
      by_cases e : x = s
      · rw [e]; exact hh
      · simp [e] at hx1; exact hx1
  · rw [if_neg bt_t, if_pos (by rw [hbit, hb])]
    exact ⟨-3, u, v, rfl, rfl, Or.inl ⟨Or.inr (Or.inl rfl), rfl, rfl⟩⟩
theorem act_put {u v : Mem} (h : DS u v) (p1 p2 p4 : Int32) {w : Nat} (hw : w = 2 ∨ w = 3) {x y : Int32} (hx : x = nI w) (hy : y = nI (16 * w)) : Act u v (X0_retell u 0 p1 p2 x p4) (X9_put v p1 p2 y p4) := by
  subst hx; subst hy
  unfold X0_retell X9_put
  rcases own_cases p1 with ⟨e1, e2⟩ | ⟨o, ho, rfl, e1, e2⟩
  · rw [e1, e2]; exact Act.bad rfl rfl
  rw [e1, e2, ob_some, if_neg bt_t, ob_some, if_neg bt_t]
  have hR := h.rr ho
  have hV := h.val ho
  rcases there_cases (x := nI o) rfl (by omega) hR p2 with ⟨t1, t2⟩ | ⟨s, hs, rfl, hh, t1, t2⟩
  · rw [t2, ob_some, if_pos bt_f]
    refine Act.bad ?_ rfl
    rcases word_cases p4 with ⟨w1, -⟩ | ⟨n, -, -, w1, -⟩
    · rw [w1]; rfl
    · rw [w1, ob_some, if_neg bt_t, outl_ok u ho, ob_some, t1]; rfl
  rw [t2, ob_some, if_neg bt_t]
  rcases word_cases p4 with ⟨w1, w2⟩ | ⟨n, hn, rfl, w1, w2⟩
  · rw [w1, w2]; exact Act.bad rfl rfl
  rw [w1, w2, ob_some, if_neg bt_t, ob_some, if_neg bt_t, outl_ok u ho, ob_some, t1, ob_some, if_neg bt_t, trait_ok hs (by omega), ob_some, nml_64, i_add, i_add, rd_ok (by omega) (by decide), ob_some, stI_ok (by omega) (by decide), ob_some, trF_here hh]
  unfold stO
  rw [put_ok hs (by omega), ob_some, ob_some]
  have hval : u (25 + o) (16 * w + s) = v 1 (64 * o + 16 * w + s) ∧ ∃ a, a < 100 ∧ u (25 + o) (16 * w + s) = nI a := by
    obtain ⟨-, -, -, -, y1, y2⟩ := rr_yes hR hs hh
    obtain ⟨y3, y4⟩ := hV.2.2.2.2 s hs hh
    rcases hw with e | e
    · subst e; exact ⟨y1, y3⟩
    · subst e; exact ⟨y2, y4⟩
  obtain ⟨hv1, a, ha, hv2⟩ := hval
  rw [← hv1, hv2]
  refine ⟨nI a, _, _, rfl, rfl, Or.inr ⟨⟨a, by omega, rfl⟩, ?_, FX.upm ho, FY.upm⟩⟩
  refine h.upd1 ho (Val_put hV hs hw hn) (rr_put hR hs hw) (fun i hi => upd_n _ _ (by omega)) (fun z hz hz1 => ?_)
  unfold hF at hz1 ⊢
  rw [upd_n _ _ (by omega)] at hz1
  exact hz1
theorem act_delete {u v : Mem} (h : DS u v) (p1 p2 : Int32) : Act u v (X0_delete u 0 p1 p2) (X9_delete v p1 p2) := by
  unfold X0_delete X9_delete
  rcases own_cases p1 with ⟨e1, e2⟩ | ⟨o, ho, rfl, e1, e2⟩
  · rw [e1, e2]; exact Act.bad rfl rfl
  rw [e1, e2, ob_some, if_neg bt_t, ob_some, if_neg bt_t]
  have hR := h.rr ho
  have hV := h.val ho
  rcases there_cases (x := nI o) rfl (by omega) hR p2 with ⟨t1, t2⟩ | ⟨s, hs, rfl, hh, t1, t2⟩
  · rw [t2, ob_some, if_pos bt_f]
    refine Act.bad ?_ rfl
    by_cases z : p2 = 0
    · rw [if_pos z]
    · rw [if_neg z, outl_ok u ho, ob_some, t1]; rfl
  rw [t2, ob_some, if_neg bt_t]
  by_cases h0 : s = 0
  · subst h0
    rw [if_pos nI_0, if_pos nI_0]
    exact Act.bad rfl rfl
  have z0 : ¬ nI s = 0 := by rw [neq_0 (by omega)]; exact h0
  rw [if_neg z0, if_neg z0, outl_ok u ho, ob_some, t1, ob_some, if_neg bt_t, ob_some, drop_ok hV.1 (by omega) hs, rBel rfl rfl (by omega) hR hV.1 hV.2.1 hs hh, ob_some, unhang_ok rfl (by omega) rfl hs, ob_some, delete_L39 rfl (by omega) (bsN_lt _ _ _), ob_some, ones_ok (bsN_lt _ _ _), ob_some]
  simp only [upm_same, upm_upm]
  have hc16 := cnt_le (fun t => (bsN (u (25 + o)) 15 s).testBit t) 16
  refine ⟨_, _, _, rfl, rfl, Or.inr ⟨⟨_, by omega, rfl⟩, ?_, FX.upm ho, FY.upm⟩⟩
  refine h.upd1 ho (Val_drop hV (by omega) hs hh) (rr_drop hR (by omega) hs hh) (fun i hi => ?_) (fun x hx hx1 => ?_)
  · unfold dlG
    rw [if_neg (by omega), un_out hs (by omega)]
  · rw [dp_h (by omega) hs hx] at hx1
    simp at hx1
    exact hx1.1
theorem act_prefer {u v : Mem} (h : DS u v) (p1 : Int32) : Act u v (X0_prefer u 0 p1) (X9_prefer v p1) := by
  unfold X0_prefer X9_prefer
  rcases side_cases p1 with ⟨e1, e2⟩ | ⟨o, ho, rfl, e1, e2⟩
  · rw [e1, e2]; exact Act.bad rfl rfl
  rw [e1, e2, ob_some, if_neg bt_t, ob_some, if_neg bt_t, show (256 : Int32) = nI 256 from rfl, rd_ok (by decide) (by decide), ob_some, stI_ok (by decide) (by decide), ob_some]
  unfold stF
  rw [ob_some, show v 1 256 = u (50 + 0) 3 from h.1.2.1.symm]
  obtain ⟨n, n1, n2, n3, n4, n5⟩ := h.fr
  have ho2 : o < 3 := by omega
  refine ⟨u (50 + 0) 3, _, _, rfl, rfl, Or.inr ⟨?_, ?_, ?_, FY.upm⟩⟩
  · rcases h.2.2.1 with e | e
    · exact ⟨1, by decide, e⟩
    · exact ⟨2, by decide, e⟩
  · refine DS.mk (fun x hx => ?_) (fun x hx => ?_) ?_ ?_ ?_ ⟨n, n1, n2, ?_, fun x k hx h7 h8 => ?_⟩
    · unfold upf
      rw [upm_same, upm_ne _ _ (by omega)]
      exact rr_keep (h.rr hx) (fun i h1 h2 => upd_n _ _ (by omega))
    · unfold upf
      rw [upm_ne _ _ (by omega)]
      exact h.val hx
    · unfold upf
      rw [upm_same, upm_same, upd_s, upd_s]
    · unfold upf
      rw [upm_same, upm_same, upd_n _ _ (by decide), upd_n _ _ (by decide)]
      exact h.1.2.2
    · unfold upf
      rw [upm_same, upd_s]
      rcases ho with e | e
      · left; rw [e]; rfl
      · right; rw [e]; rfl
    · unfold upf
      rw [upm_same, upd_n _ _ (by decide)]
      exact n3
    · unfold upf
      rw [upm_ne _ _ (by omega)]
      exact n5 x k hx h7 h8
  · intro i h1 h2 h3 h4
    unfold upf
    rw [upm_ne _ _ (by omega)]
