/-! ===== PHASE B: conflicts, size, alike, adopts ===== -/
theorem nn_of {a : Int32} (h1 : ¬ a < -1) (h2 : ¬ a = -1) : ¬ a < 0 := by
  intro z
  have e : (-1 : Int32).toInt = -1 := by decide
  have e0 : (0 : Int32).toInt = 0 := by decide
  rw [Int32.lt_iff_toInt_lt, e] at h1
  rw [← Int32.toInt_inj, e] at h2
  rw [Int32.lt_iff_toInt_lt, e0] at z
  omega
theorem row_cases (a b : Int32) {c : Nat} (hc : c = 2 ∨ c = 3) {x : Int32} (hx : x = nI c) :
    (X8_isRowAsked a b x = some false ∧ (a < -1 ∨ (¬ a < -1 ∧ ((if a = -1 then some (0 : Int32) else some (nI (c - 1))).bind fun y => X9_in b 0 y) = some false))) ∨
    (X8_isRowAsked a b x = some true ∧ ¬ a < -1 ∧ ((if a = -1 then some (0 : Int32) else some (nI (c - 1))).bind fun y => X9_in b 0 y) = some true ∧ ((a = -1 ∧ b = 0) ∨ (¬ a = -1 ∧ ¬ a < 0 ∧ ∃ w, w < c ∧ b = nI w))) := by
  unfold X8_isRowAsked
  by_cases h1 : a < -1
  · left
    rw [if_pos h1]; exact ⟨rfl, Or.inl h1⟩
  · rw [if_neg h1]
    by_cases h2 : a = -1
    · rw [show (if a = -1 then some (0 : Int32) else some (nI (c - 1))) = some 0 from if_pos h2, ob_some]
      rcases in_cases b (n := 0) (by decide) with ⟨d1, d2⟩ | ⟨k, k0, rfl, d2⟩
      · left
        refine ⟨?_, Or.inr ⟨h1, d2⟩⟩
        by_cases z : b < 0
        · rw [if_pos z]
        · rw [if_neg z]
          by_cases z2 : x ≤ b
          · rw [if_pos z2]
          · rw [if_neg z2, if_pos h2, if_neg]
            intro z3
            rcases d1 with d1 | d1
            · exact z d1
            · rw [z3] at d1; exact d1 (by decide)
      · right
        have : k = 0 := by omega
        subst this
        refine ⟨?_, h1, d2, Or.inl ⟨h2, rfl⟩⟩
        rw [if_neg (by decide), if_neg (by rw [hx, c_le (by omega) (by omega)]; omega), if_pos h2]; rfl
    · rw [show (if a = -1 then some (0 : Int32) else some (nI (c - 1))) = some (nI (c - 1)) from if_neg h2, ob_some]
      rcases in_cases b (n := c - 1) (by omega) with ⟨d1, d2⟩ | ⟨k, k0, rfl, d2⟩
      · left
        refine ⟨?_, Or.inr ⟨h1, d2⟩⟩
        by_cases z : b < 0
        · rw [if_pos z]
        · rw [if_neg z, if_pos]
          rcases i_cases b (n := c) (by omega) with q | q | ⟨k, hk, rfl⟩
          · exact absurd q z
          · rw [hx]; exact q
          · exfalso
            rcases d1 with d1 | d1
            · exact z d1
            · rw [c_le (by omega) (by omega)] at d1; omega
      · right
        refine ⟨?_, h1, d2, Or.inr ⟨h2, nn_of h1 h2, k, by omega, rfl⟩⟩
        rw [if_neg (i_nn (by omega)), if_neg (by rw [hx, c_le (by omega) (by omega)]; omega), if_neg h2]
theorem st_conflicts {u v : Mem} (h : Rel u v) (a b : Int32) : St (X8_conflicts u a b) (X9_conflicts v a b) := by
  unfold X8_conflicts X9_conflicts
  rcases row_cases a b (c := 3) (Or.inr rfl) (x := 3) rfl with ⟨c1, c2⟩ | ⟨c1, c2, c3, c4⟩
  · rw [c1, ob_some, if_pos bt_f]
    rcases c2 with z | ⟨z, c2⟩
    · rw [if_pos z]
      exact st_bad h (Or.inl rfl)
    · rw [if_neg z]
      have : ((if a = -1 then some (0 : Int32) else some 2).bind fun x3 => (X9_in b 0 x3).bind fun r5 => (if b2i r5 = 0 then bd2 (X9_refuse v (-2)) fun r8 mu9 => some (r8, mu9) else (X9_merge v).bind fun mu6 => (if a = -1 then some (mu6 0 13, mu6) else (if mu6 0 13 ≤ a then some (-5, mu6) else (rd 480 (mu6 10) (3 * a + b)).bind fun v7 => some (v7, mu6))))) = bd2 (X9_refuse v (-2)) fun r8 mu9 => some (r8, mu9) := by
        rw [← Option.bind_assoc, show ((if a = -1 then some (0 : Int32) else some 2).bind fun x3 => X9_in b 0 x3) = some false from c2, ob_some, if_pos bt_f]
      rw [this]
      exact st_bad h (Or.inl rfl)
  · rw [c1, ob_some, if_neg bt_t, if_neg c2]
    obtain ⟨u', v', e1, e2, e3, ⟨-, -, ⟨n, hn, m1, m2, m3⟩, -⟩, -, -⟩ := asked h
    rw [e1, ob_some]
    have : ((if a = -1 then some (0 : Int32) else some 2).bind fun x3 => (X9_in b 0 x3).bind fun r5 => (if b2i r5 = 0 then bd2 (X9_refuse v (-2)) fun r8 mu9 => some (r8, mu9) else (X9_merge v).bind fun mu6 => (if a = -1 then some (mu6 0 13, mu6) else (if mu6 0 13 ≤ a then some (-5, mu6) else (rd 480 (mu6 10) (3 * a + b)).bind fun v7 => some (v7, mu6))))) = (if a = -1 then some (v' 0 13, v') else (if v' 0 13 ≤ a then some (-5, v') else (rd 480 (v' 10) (3 * a + b)).bind fun v7 => some (v7, v'))) := by
      rw [← Option.bind_assoc, show ((if a = -1 then some (0 : Int32) else some 2).bind fun x3 => X9_in b 0 x3) = some true from c3, ob_some, if_neg bt_t, e2, ob_some]
    rw [this]
    unfold X6_answer
    rcases c4 with ⟨rfl, -⟩ | ⟨z1, z2, w, hw, rfl⟩
    · rw [if_pos rfl, if_pos rfl]
      refine ⟨nI n, u', v', by rw [ob_some, show u' (64 + 4 * 0) 3 = nI n from m1], by rw [m2], e3⟩
    · rw [if_neg z1, if_neg z1, if_neg z2, show u' (64 + 4 * 0) 3 = nI n from m1, m2]
      rcases i_cases a (n := n) (by omega) with q | q | ⟨i, hi, rfl⟩
      · exact absurd q z2
      · rw [if_pos q, if_pos q]
        exact ⟨-5, u', v', rfl, rfl, e3⟩
      · have l1 : ¬ Int32.ofNat (lenT 0) ≤ nI i := by
          show ¬ nI 128 ≤ nI i
          rw [c_le (by omega) (by omega)]; omega
        have l2 : nI i < Int32.ofNat (lenT 0) := by
          show nI i < nI 128
          rw [c_lt (by omega) (by omega)]; omega
        have nl : ¬ nI n ≤ nI i := by rw [c_le (by omega) (by omega)]; omega
        rw [if_neg nl, if_neg nl, if_neg l1, if_neg l1, if_pos l2, nml_3, i_add, rd_ok (show 3 * i + w < 480 by omega) (by decide), ob_some]
        have hl : i < lenT 0 := by rw [lenT0]; omega
        have hll : lenT 0 < 2147483648 := by decide
        obtain ⟨m31, m32, m33⟩ := m3 i hi
        rw [rd_ok hl hll, rd_ok hl hll, rd_ok hl hll, ob_some, ob_some, ob_some]
        rcases (show w = 0 ∨ w = 1 ∨ w = 2 by omega) with e | e | e <;> subst e
        · rw [if_pos (by decide), ob_some]
          exact ⟨v' 10 (3 * i + 0), u', v', by rw [← show u' 65 i = v' 10 (3 * i + 0) from m31], rfl, e3⟩
        · rw [if_neg (by decide), if_pos (by decide), ob_some]
          exact ⟨v' 10 (3 * i + 1), u', v', by rw [← show u' 66 i = v' 10 (3 * i + 1) from m32], rfl, e3⟩
        · rw [if_neg (by decide), if_neg (by decide), ob_some]
          exact ⟨v' 10 (3 * i + 2), u', v', by rw [← show u' 67 i = v' 10 (3 * i + 2) from m33], rfl, e3⟩
/-! depth -/
theorem depthOf_ok {f : Nat → Int32} (hV : Val f) {s i : Nat} (hs : s < 16) (hh : hF f s = true) (hi : i < 16) (h0 : up (PF f) i s = 0) (hm : ∀ j, j < i → up (PF f) j s ≠ 0) : X4_depthOf f (nI s) = some (nI i) := by
  have hC := hV.1.clo
  have hq : ∀ j, up (PF f) j s < 16 ∧ hF f (up (PF f) j s) = true := fun j => hC.up j s hs hh
  have main : ∀ d j n, j + d = i → d < n → X4_depthOf_L12 f (n + 1) (nI j) (trF f (up (PF f) j s) 0) (nI j) = some (nI i) := by
    intro d
    induction d with
    | zero =>
      intro j n h1 h2
      have : j = i := by omega
      subst this
      rw [X4_depthOf_L12, if_neg (by rw [nle_16 (by omega)]; omega), trF_par hV.1 (hq j).1 (hq j).2, h0, if_pos rfl, if_pos rfl]
    | succ d ih =>
      intro j n h1 h2
      obtain ⟨n, rfl⟩ : ∃ n', n = n' + 1 := ⟨n - 1, by omega⟩
      have hne := hm j (by omega)
      have e1 : trF f (up (PF f) j s) 0 = nI (up (PF f) (j + 1) s) := by
        rw [trF_par hV.1 (hq j).1 (hq j).2, if_neg hne, up_succ]
      have := hq (j + 1)
      rw [X4_depthOf_L12, if_neg (by rw [nle_16 (by omega)]; omega), e1, if_neg (i_m1 (by omega)), trait0' this.1, ob_some, nar_1]
      exact ih (j + 1) n (by omega) (by omega)
  unfold X4_depthOf
  rw [trait0' hs, ob_some]
  have := main i 0 4095 (by omega) (by omega)
  rw [show X4_depthOf_L12 f fu 0 (trF f s 0) 0 = some (nI i) from this]; rfl
theorem deep_ok {f : Nat → Int32} {v : Mem} {o : Nat} (ho : o < 4) (hV : Val f) (hR : RR f (v 1) (64 * o)) {s i : Nat} (hs : s < 16) (hh : hF f s = true) (hi : i < 16) (h0 : up (PF f) i s = 0) (hm : ∀ j, j < i → up (PF f) j s ≠ 0) : X9_deepOf_L16 (nI o) v (nI s) fu 0 (nI s) = some (nI i) := by
  have hC := hV.1.clo
  have hq : ∀ j, up (PF f) j s < 16 ∧ hF f (up (PF f) j s) = true := fun j => hC.up j s hs hh
  have main : ∀ d j n, j + d = i → d < n → X9_deepOf_L16 (nI o) v (nI s) (n + 1) (nI j) (nI (up (PF f) j s)) = some (nI i) := by
    intro d
    induction d with
    | zero =>
      intro j n h1 h2
      have : j = i := by omega
      subst this
      rw [X9_deepOf_L16, rIn rfl rfl ho hs, ob_some, rr_h hR hs, hh, if_neg bt_t, h0, if_pos (by decide)]
    | succ d ih =>
      intro j n h1 h2
      obtain ⟨n, rfl⟩ : ∃ n', n = n' + 1 := ⟨n - 1, by omega⟩
      have hne := hm j (by omega)
      have hj := hq j
      obtain ⟨-, -, a0, -⟩ := rr_yes hR hj.1 hj.2
      have e1 : v 1 (64 * o + up (PF f) j s) = nI (up (PF f) (j + 1) s) := by
        rw [← a0, (hV.1.par (by omega) hj.1 hj.2).1, up_succ]
      rw [X9_deepOf_L16, rIn rfl rfl ho hs, ob_some, rr_h hR hs, hh, if_neg bt_t, if_neg (by rw [nel_0 (by omega)]; omega), rPar rfl rfl ho hj.1, ob_some, e1, nar_1]
      exact ih (j + 1) n (by omega) (by omega)
  exact main i 0 4095 (by omega) (by omega)
theorem deep_each {f : Nat → Int32} {v : Mem} {o : Nat} (ho : o < 4) (hV : Val f) (hR : RR f (v 1) (64 * o)) {s : Nat} (hs : s < 16) : ∃ d, d < 16 ∧ X4_depthOf f (nI s) = some (nI d) ∧ X9_deepOf_L16 (nI o) v (nI s) fu 0 (nI s) = some (nI d) ∧ (s = 0 → d = 0) := by
  cases hh : hF f s
  · refine ⟨0, by decide, ?_, ?_, fun _ => rfl⟩
    · unfold X4_depthOf
      rw [trait0' hs, ob_some, trF_not hV.1 hs hh, fu_s, X4_depthOf_L12, if_neg (by decide), if_pos rfl]; rfl
    · rw [fu_s, X9_deepOf_L16, rIn rfl rfl ho hs, ob_some, rr_h hR hs, hh, if_pos bt_f]; rfl
  · obtain ⟨i, hi, h0, hm, -⟩ := hV.2.1.first hV.1.clo hs hh
    refine ⟨i, hi, depthOf_ok hV hs hh hi h0 hm, deep_ok ho hV hR hs hh hi h0 hm, fun z => ?_⟩
    subst z
    apply Classical.byContradiction
    intro ne
    exact hm 0 (by omega) rfl
theorem depth_ok {f : Nat → Int32} {v : Mem} {o : Nat} (ho : o < 4) (hV : Val f) (hR : RR f (v 1) (64 * o)) : ∃ d, d < 16 ∧ X4_depth f = some (nI d) ∧ X9_deepOf v (nI o) = some (nI d) := by
  have main : ∀ c k n m x, k + c = 16 → x < 16 → c < n → c < m → ∃ y, y < 16 ∧ X4_depth_L4 f n (nI x) (nI k) = some (nI y) ∧ X9_deepOf_L4 (nI o) v m (nI x) (nI k) = some (nI y) := by
    intro c
    induction c with
    | zero =>
      intro k n m x h1 h2 h3 h4
      obtain ⟨n, rfl⟩ : ∃ n', n = n' + 1 := ⟨n - 1, by omega⟩
      obtain ⟨m, rfl⟩ : ∃ n', m = n' + 1 := ⟨m - 1, by omega⟩
      have : k = 16 := by omega
      subst this
      exact ⟨x, h2, by rw [X4_depth_L4, if_pos (by decide)], by rw [X9_deepOf_L4, if_pos (by decide)]⟩
    | succ c ih =>
      intro k n m x h1 h2 h3 h4
      obtain ⟨n, rfl⟩ : ∃ n', n = n' + 1 := ⟨n - 1, by omega⟩
      obtain ⟨m, rfl⟩ : ∃ n', m = n' + 1 := ⟨m - 1, by omega⟩
      obtain ⟨d, d1, d2, d3, -⟩ := deep_each ho hV hR (s := k) (by omega)
      have e1 : (if nI x < nI d then nI d else nI x) = nI (if x < d then d else x) := by
        by_cases z : x < d
        · rw [if_pos z, if_pos (by rw [c_lt (by omega) (by omega)]; exact z)]
        · rw [if_neg z, if_neg (by rw [c_lt (by omega) (by omega)]; exact z)]
      obtain ⟨y, y1, y2, y3⟩ := ih (k + 1) n m (if x < d then d else x) (by omega) (by split <;> omega) (by omega) (by omega)
      refine ⟨y, y1, ?_, ?_⟩
      · rw [X4_depth_L4, if_neg (by rw [nle_16 (by omega)]; omega), d2, ob_some, nar_1, e1]; exact y2
      · rw [X9_deepOf_L4, if_neg (by rw [nle_16 (by omega)]; omega), d3, ob_some, nar_1]
        by_cases z : x < d
        · rw [if_pos z] at y3
          rw [if_neg (by rw [c_le (by omega) (by omega)]; omega)]; exact y3
        · rw [if_neg z] at y3
          rw [if_pos (by rw [c_le (by omega) (by omega)]; omega)]; exact y3
  obtain ⟨d, d1, d2, d3, d4⟩ := deep_each ho hV hR (s := 0) (by decide)
  have hd := d4 rfl
  subst hd
  obtain ⟨y, y1, y2, y3⟩ := main 15 1 4095 fu 0 (by decide) (by decide) (by decide) (by decide)
  refine ⟨y, y1, ?_, ?_⟩
  · unfold X4_depth
    have e : X4_depth_L4 f fu 0 0 = some (nI y) := by
      rw [fu_s, X4_depth_L4, if_neg (by decide), show X4_depthOf f 0 = some (nI 0) from d2, ob_some]
      exact y2
    rw [e]; rfl
  · unfold X9_deepOf
    rw [show X9_deepOf_L4 (nI o) v fu 0 1 = some (nI y) from y3]; rfl
theorem st_size {u v : Mem} (h : Rel u v) (a b : Int32) : St (X8_size u a b) (X9_size v a b) := by
  unfold X8_size X9_size
  rcases ask_cases h a with ⟨c1, c2⟩ | ⟨o, u', v', o4, rfl, c1, c2, c3, c4, c5, c6, c7⟩
  · rw [c1, ob_some, if_pos bt_f, c2, ob_2, if_pos bt_f]
    exact st_bad h (Or.inl rfl)
  · obtain ⟨hR, hV⟩ := row_any c4 o4 c6
    rw [c1, ob_some, if_neg bt_t, c3, ob_2, if_neg bt_t]
    rcases in_cases b (n := 1) (by decide) with ⟨d1, d2⟩ | ⟨w, w5, rfl, d2⟩
    · rw [show X9_in b 0 1 = some false from d2, ob_some, if_pos bt_f]
      by_cases z : b < 0
      · rw [if_pos z]
        exact st_bad c5 (Or.inl rfl)
      · rw [if_neg z, if_neg (show ¬ b ≤ 1 by rcases d1 with d1 | d1; exact absurd d1 z; exact d1)]
        exact st_bad c5 (Or.inl rfl)
    · rw [show X9_in (nI w) 0 1 = some true from d2, ob_some, if_neg bt_t, if_neg (i_nn (by omega)), if_pos (by rw [nel_1 (by omega)]; exact w5), c2, ob_2, ob_2]
      rcases (show w = 0 ∨ w = 1 by omega) with e | e <;> subst e
      · rw [if_pos (by decide), if_pos (by decide), count_ok, ob_some, rMany rfl o4 hR, ob_some]
        exact ⟨_, u', v', rfl, rfl, c4⟩
      · obtain ⟨d, -, e1, e2⟩ := depth_ok o4 hV hR
        rw [if_neg (by decide), if_neg (by decide), e1, ob_some, e2, ob_some]
        exact ⟨_, u', v', rfl, rfl, c4⟩
