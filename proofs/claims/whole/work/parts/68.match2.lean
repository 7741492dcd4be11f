/-! ===== PHASE B: likeness, the pairs ===== -/
def PR (f g : Nat → Int32) (u0 v0 u v : Mem) (m : Nat) : Prop := tabM u f g 16 ∧ (∀ s, s < 16 → u 75 s = v 14 s) ∧ m < 65536 ∧ (∀ b, b < 16 → u 76 b = if hF f b = true ∧ m.testBit b = false then 0 else 1) ∧ mS u0 u ∧ ∀ i, i ≠ 14 → v i = v0 i
section MT
variable {f g : Nat → Int32} {u0 v0 : Mem} {o : Nat}
theorem pair_idle (ho : o < 4) (hRf : RR f (v0 1) (64 * 0)) (hRg : RR g (v0 1) (64 * o)) {v : Mem} (hv : v 1 = v0 1) {b m : Nat} {x : Int32} (hb : b < 16) (hm : m < 65536) (hn : ¬ (hF f b = true ∧ m.testBit b = false)) : ∀ c k n, k + c = 16 → c < n → X9_layMatches_L44 (nI o) x (nI b) n (nI m) (nI k) v = some (nI m, v) := by
  intro c
  induction c with
  | zero =>
    intro k n h1 h2
    obtain ⟨n, rfl⟩ : ∃ n', n = n' + 1 := ⟨n - 1, by omega⟩
    have : k = 16 := by omega
    subst this
    rw [X9_layMatches_L44, if_pos (by decide)]
  | succ c ih =>
    intro k n h1 h2
    obtain ⟨n, rfl⟩ : ∃ n', n = n' + 1 := ⟨n - 1, by omega⟩
    have hk : k < 16 := by omega
    have e : ((if b2i (hF f b) = 0 then some (0 : Int32) else if b2i (hF g k) = 0 then some 0 else if (nI m >>> (nI b &&& 31)) &&& 1 = 0 then if v 14 k = -1 then some 1 else some 0 else some 0)) = some 0 := by
      cases h1 : hF f b
      · rfl
      · rw [if_neg bt_t]
        cases hF g k
        · rfl
        · rw [if_neg bt_t, if_neg]
          rw [bt_isN hm hb]
          intro z
          exact hn ⟨h1, z⟩
    have i1 : X9_isIn v 0 (nI b) = some (hF f b) := by rw [rIn (x := 0) (o := 0) rfl rfl (by decide) hb, hv, rr_h hRf hb]
    have i2 : X9_isIn v (nI o) (nI k) = some (hF g k) := by rw [rIn rfl rfl ho hk, hv, rr_h hRg hk]
    rw [X9_layMatches_L44, if_neg (by rw [nle_16 (by omega)]; omega), i1, ob_some, i2, ob_some, rd_ok hk (by decide), ob_some, e, ob_some, if_pos rfl, nar_1]
    exact ih (k + 1) n (by omega) (by omega)
theorem pair_in (ho : o < 4) (hf : CloF f) (hg : CloF g) (hRf : RR f (v0 1) (64 * 0)) (hRg : RR g (v0 1) (64 * o)) {b q : Nat} (b0 : 0 < b) (hb : b < 16) (q3 : 3 ≤ q) (q9 : q < 10) : ∀ c k n n' u v m, k + c = 16 → 0 < k → c < n → c < n' → PR f g u0 v0 u v m → ∃ u' v' m', X2_pairAll_L10 (nI q) (nI b) n (nI k) u = some u' ∧ X9_layMatches_L44 (nI o) (nI q) (nI b) n' (nI m) (nI k) v = some (nI m', v') ∧ PR f g u0 v0 u' v' m' := by
  intro c
  induction c with
  | zero =>
    intro k n n' u v m h1 h2 h3 h4 hP
    obtain ⟨n, rfl⟩ : ∃ n', n = n' + 1 := ⟨n - 1, by omega⟩
    obtain ⟨n', rfl⟩ : ∃ n'', n' = n'' + 1 := ⟨n' - 1, by omega⟩
    have : k = 16 := by omega
    subst this
    exact ⟨u, v, m, by rw [X2_pairAll_L10, if_pos (by decide)], by rw [X9_layMatches_L44, if_pos (by decide)], hP⟩
  | succ c ih =>
    intro k n n' u v m h1 h2 h3 h4 hP
    obtain ⟨n, rfl⟩ : ∃ n', n = n' + 1 := ⟨n - 1, by omega⟩
    obtain ⟨n', rfl⟩ : ∃ n'', n' = n'' + 1 := ⟨n' - 1, by omega⟩
    have hk : k < 16 := by omega
    obtain ⟨p1, p2, p3, p4, p5, p6⟩ := hP
    have hv : v 1 = v0 1 := p6 1 (by decide)
    by_cases hfree : hF f b = true ∧ m.testBit b = false
    · have t0 : u 76 b = 0 := by rw [p4 b hb, if_pos hfree]
      have t1 := p1 b k b0 hb h2 hk hfree.1
      have i1 : X9_isIn v 0 (nI b) = some (hF f b) := by rw [rIn (x := 0) (o := 0) rfl rfl (by decide) hb, hv, rr_h hRf hb]
      have i2 : X9_isIn v (nI o) (nI k) = some (hF g k) := by rw [rIn rfl rfl ho hk, hv, rr_h hRg hk]
      have hk16 : ¬ (16 : Int32) ≤ nI k := by rw [nle_16 (by omega)]; omega
      rw [X2_pairAll_L10, if_neg hk16, rd_ok hb (by decide), ob_some, t0, if_pos rfl, nmr_16, i_add, show b * 16 + k = 16 * b + k by omega, rd_ok (by omega) (by decide), ob_some, t1, rd_ok hk (by decide), ob_some, nar_1]
      rw [X9_layMatches_L44, if_neg hk16, i1, ob_some, i2, ob_some, rd_ok hk (by decide), ob_some, hfree.1, if_neg bt_t, nar_1]
      cases hgk : hF g k
      · rw [if_neg (show ¬ (if false = true then scM f g b k else 0) = nI q by
          show ¬ (0 : Int32) = nI q
          intro z
          have := i_inj (a := 0) (b := q) (by decide) (by omega) z
          omega), if_pos bt_f, ob_some, if_pos rfl]
        exact ih (k + 1) n n' u v m (by omega) (by omega) (by omega) (by omega) ⟨p1, p2, p3, p4, p5, p6⟩
      · have hs : X9_scoreOf v (nI o) (nI b) (nI k) = some (scM f g b k) := rscore_ok ho hf hg (by rw [hv]; exact hRf) (by rw [hv]; exact hRg) b0 hb h2 hk hfree.1 hgk
        rw [if_neg bt_t, if_pos (show (nI m >>> (nI b &&& 31)) &&& 1 = 0 by rw [bt_isN p3 hb]; exact hfree.2), show (if true = true then scM f g b k else 0) = scM f g b k from rfl, hs, ob_some, p2 k hk]
        by_cases e1 : v 14 k = -1
        · rw [show (if v 14 k = -1 then some (1 : Int32) else some 0) = some 1 from if_pos e1, ob_some, if_neg (show ¬ (1 : Int32) = 0 by decide)]
          by_cases e2 : scM f g b k = nI q
          · rw [if_pos e2, if_pos e2, if_pos e1, bnar1, stI_ok hb (by decide), ob_some, stI_ok hk (by decide), ob_some, stI_ok hk (by decide), ob_some, bt_one b hb, nx_or]
            refine ih (k + 1) n n' _ _ _ (by omega) (by omega) (by omega) (by omega) ⟨?_, ?_, ?_, ?_, ?_, ?_⟩
            · intro b' s' x1 x2 x3 x4 x5
              rw [upm_ne _ _ (by decide), upm_ne _ _ (by decide)]
              exact p1 b' s' x1 x2 x3 x4 x5
            · intro s hs
              rw [upm_same, upm_same, upm_ne _ _ (by decide)]
              by_cases e : s = k
              · rw [e, upd_s, upd_s]
              · rw [upd_n _ _ e, upd_n _ _ e]; exact p2 s hs
            · exact Nat.or_lt_two_pow (n := 16) p3 (Nat.pow_lt_pow_right (by decide) hb)
            · intro b' hb'
              rw [upm_ne _ _ (by decide), upm_same, Nat.testBit_or, Nat.testBit_two_pow]
              by_cases e : b' = b
              · rw [e, upd_s, if_neg (by simp)]
              · rw [upd_n _ _ e, p4 b' hb']
                have : decide (b = b') = false := by simp; omega
                rw [this, Bool.or_false]
            · intro i x1 x2 x3
              rw [upm_ne _ _ x2, upm_ne _ _ x3]; exact p5 i x1 x2 x3
            · intro i x1
              rw [upm_ne _ _ x1]; exact p6 i x1
          · rw [if_neg e2, if_neg e2]
            exact ih (k + 1) n n' u v m (by omega) (by omega) (by omega) (by omega) ⟨p1, p2, p3, p4, p5, p6⟩
        · rw [show (if v 14 k = -1 then some (1 : Int32) else some 0) = some 0 from if_neg e1, ob_some, if_pos rfl, if_neg e1]
          by_cases e2 : scM f g b k = nI q
          · rw [if_pos e2]
            exact ih (k + 1) n n' u v m (by omega) (by omega) (by omega) (by omega) ⟨p1, p2, p3, p4, p5, p6⟩
          · rw [if_neg e2]
            exact ih (k + 1) n n' u v m (by omega) (by omega) (by omega) (by omega) ⟨p1, p2, p3, p4, p5, p6⟩
    · have t0 : u 76 b = 1 := by rw [p4 b hb, if_neg hfree]
      refine ⟨u, v, m, ?_, pair_idle ho hRf hRg hv hb p3 hfree (c + 1) k (n' + 1) (by omega) (by omega), ⟨p1, p2, p3, p4, p5, p6⟩⟩
      rw [X2_pairAll_L10, if_neg (by rw [nle_16 (by omega)]; omega), rd_ok hb (by decide), ob_some, t0, if_neg (by decide)]
theorem pair_all (ho : o < 4) (hf : CloF f) (hg : CloF g) (hRf : RR f (v0 1) (64 * 0)) (hRg : RR g (v0 1) (64 * o)) {q : Nat} (q3 : 3 ≤ q) (q9 : q < 10) : ∀ c k n n' u v m, k + c = 16 → 0 < k → c < n → c < n' → PR f g u0 v0 u v m → ∃ u' v' m', X2_pairAll_L2 (nI q) n (nI k) u = some u' ∧ X9_layMatches_L34 (nI o) (nI q) n' (nI m) (nI k) v = some (nI m', v') ∧ PR f g u0 v0 u' v' m' := by
  intro c
  induction c with
  | zero =>
    intro k n n' u v m h1 h2 h3 h4 hP
    obtain ⟨n, rfl⟩ : ∃ n', n = n' + 1 := ⟨n - 1, by omega⟩
    obtain ⟨n', rfl⟩ : ∃ n'', n' = n'' + 1 := ⟨n' - 1, by omega⟩
    have : k = 16 := by omega
    subst this
    exact ⟨u, v, m, by rw [X2_pairAll_L2, if_pos (by decide)], by rw [X9_layMatches_L34, if_pos (by decide)], hP⟩
  | succ c ih =>
    intro k n n' u v m h1 h2 h3 h4 hP
    obtain ⟨n, rfl⟩ : ∃ n', n = n' + 1 := ⟨n - 1, by omega⟩
    obtain ⟨n', rfl⟩ : ∃ n'', n' = n'' + 1 := ⟨n' - 1, by omega⟩
    obtain ⟨u1, v1, m1, a1, a2, a3⟩ := pair_in ho hf hg hRf hRg h2 (show k < 16 by omega) q3 q9 15 1 fu fu u v m (by decide) (by decide) (by decide) (by decide) hP
    obtain ⟨u2, v2, m2, b1, b2, b3⟩ := ih (k + 1) n n' u1 v1 m1 (by omega) (by omega) (by omega) (by omega) a3
    refine ⟨u2, v2, m2, ?_, ?_, b3⟩
    · rw [X2_pairAll_L2, if_neg (by rw [nle_16 (by omega)]; omega), show X2_pairAll_L10 (nI q) (nI k) fu 1 u = some u1 from a1, ob_some, nar_1]; exact b1
    · rw [X9_layMatches_L34, if_neg (by rw [nle_16 (by omega)]; omega), show X9_layMatches_L44 (nI o) (nI q) (nI k) fu (nI m) 1 v = some (nI m1, v1) from a2, ob_2, nar_1]; exact b2
theorem pair_scores (ho : o < 4) (hf : CloF f) (hg : CloF g) (hRf : RR f (v0 1) (64 * 0)) (hRg : RR g (v0 1) (64 * o)) : ∀ d n n' u v m, d < 8 → d < n → d < n' → PR f g u0 v0 u v m → ∃ u' v' m', X2_match_L102 n (nI (2 + d)) u = some u' ∧ X9_layMatches_L26 (nI o) n' (nI m) (nI (2 + d)) v = some v' ∧ PR f g u0 v0 u' v' m' := by
  intro d
  induction d with
  | zero =>
    intro n n' u v m hd h3 h4 hP
    obtain ⟨n, rfl⟩ : ∃ n', n = n' + 1 := ⟨n - 1, by omega⟩
    obtain ⟨n', rfl⟩ : ∃ n'', n' = n'' + 1 := ⟨n' - 1, by omega⟩
    exact ⟨u, v, m, by rw [X2_match_L102, if_pos (by decide)], by rw [X9_layMatches_L26, if_pos (by decide)], hP⟩
  | succ d ih =>
    intro n n' u v m hd h3 h4 hP
    obtain ⟨n, rfl⟩ : ∃ n', n = n' + 1 := ⟨n - 1, by omega⟩
    obtain ⟨n', rfl⟩ : ∃ n'', n' = n'' + 1 := ⟨n' - 1, by omega⟩
    obtain ⟨u1, v1, m1, a1, a2, a3⟩ := pair_all ho hf hg hRf hRg (q := 2 + (d + 1)) (by omega) (by omega) 15 1 fu fu u v m (by decide) (by decide) (by decide) (by decide) hP
    obtain ⟨u2, v2, m2, b1, b2, b3⟩ := ih n n' u1 v1 m1 (by omega) (by omega) (by omega) a3
    have e : nI (2 + (d + 1)) + (-1) = nI (2 + d) := by rw [show 2 + (d + 1) = (2 + d) + 1 by omega, nm1]
    refine ⟨u2, v2, m2, ?_, ?_, b3⟩
    · rw [X2_match_L102, if_neg (by rw [ntl_3 (by omega)]; omega)]
      unfold X2_pairAll
      rw [show X2_pairAll_L2 (nI (2 + (d + 1))) fu 1 u = some u1 from a1, ob_some, ob_some, e]; exact b1
    · rw [X9_layMatches_L26, if_neg (by rw [ntl_3 (by omega)]; omega), show X9_layMatches_L34 (nI o) (nI (2 + (d + 1))) fu (nI m) 1 v = some (nI m1, v1) from a2, ob_2, e]; exact b2
end MT
theorem match_ok {u v : Mem} (h : Rel u v) {o : Nat} (ho : o = 1 ∨ o = 2) : ∃ u' v', X2_match u 0 o = some u' ∧ X9_layMatches v (nI o) = some v' ∧ (∀ s, s < 16 → u' 75 s = v' 14 s) ∧ mS u u' ∧ ∀ i, i ≠ 14 → v' i = v i := by
  have hf := (h.1.val (o := 0) (by decide)).1
  have hg := (h.1.val (o := o) (by omega)).1
  have hRf := h.1.rr (o := 0) (by decide)
  have hRg := h.1.rr (o := o) (by omega)
  obtain ⟨u1, a1, a2, a3, a4⟩ := match1 (u := u)
  have r25 : u1 25 = u 25 := a2 25 (by decide) (by decide) (by decide)
  have ro : u1 (25 + o) = u (25 + o) := a2 _ (by omega) (by omega) (by omega)
  obtain ⟨u2, b1, b2, b3⟩ := match2 (u := u1) ho (by rw [r25]; exact hf) (by rw [ro]; exact hg) (by rw [r25]; exact a4)
  rw [r25, ro] at b3
  obtain ⟨v1, c1, w, hw, hz⟩ := lp_fu (fun n (y : Mem) z => X9_layMatches_L2 n z y) 0 16 (fun k y => ∃ w, y = upm v 14 w ∧ ∀ j, j < k → w j = -1) (fun y => ∃ w, y = upm v 14 w ∧ ∀ j, j < 16 → w j = -1) v (by decide) (by decide) ⟨v 14, (upm_self v 14).symm, fun j hj => by omega⟩
    (fun n y h => ⟨y, by rw [X9_layMatches_L2, if_pos (by decide)], h⟩)
    (fun n y k hk ⟨w, hw, hz⟩ => by
      left
      refine ⟨upm v 14 (upd w k (-1)), ⟨_, rfl, fun j hj => ?_⟩, ?_⟩
      · by_cases e : j = k
        · rw [e, upd_s]
        · rw [upd_n _ _ e]; exact hz j (by omega)
      · rw [X9_layMatches_L2, if_neg (by rw [nle_16 (by omega)]; omega), stI_ok hk (by decide), ob_some, nar_1, hw, upm_same, upm_upm])
  subst hw
  have hP : PR (u 25) (u (25 + o)) u v u2 (upm v 14 w) 0 := by
    refine ⟨b3, fun s hs => ?_, by decide, fun b hb => ?_, fun i x1 x2 x3 => ?_, fun i hi => upm_ne _ _ hi⟩
    · rw [b2 75 (by decide), a3 s hs, upm_same, hz s hs]
    · rw [b2 76 (by decide), a4 b hb]
      simp
    · rw [b2 i x1, a2 i x1 x2 x3]
  obtain ⟨u3, v3, m3, d1, d2, d3⟩ := pair_scores (o := o) (by omega) hf hg hRf hRg 7 fu fu u2 (upm v 14 w) 0 (by decide) (by decide) (by decide) hP
  refine ⟨u3, v3, ?_, ?_, d3.2.1, d3.2.2.2.2.1, d3.2.2.2.2.2⟩
  · unfold X2_match
    rw [a1, ob_some, b1, ob_some, show X2_match_L102 fu 9 u2 = some u3 from d1]; rfl
  · unfold X9_layMatches
    rw [show X9_layMatches_L2 fu 0 v = some (upm v 14 w) from c1, ob_some, show X9_layMatches_L26 (nI o) fu 0 9 (upm v 14 w) = some v3 from d2]; rfl
theorem Rel.viaM {u v u' v' : Mem} (h : Rel u v) (h1 : mS u u') (h2 : ∀ i, i ≠ 14 → v' i = v i) : Rel u' v' :=
  h.frame (fun i hi => h1 i (by omega) (by omega) (by omega)) (by rw [h1 61 (by decide) (by decide) (by decide)]) (by rw [h1 77 (by decide) (by decide) (by decide)]) (fun i _ => by rw [h2 1 (by decide)]) (fun i hi => h2 i (by omega)) (by rw [h2 0 (by decide)]) (by rw [h2 0 (by decide)])
theorem st_matches {u v : Mem} (h : Rel u v) (a b : Int32) : St (X8_matches u a b) (X9_matches v a b) := by
  unfold X8_matches X9_matches
  rcases side_cases a with ⟨c1, c2⟩ | ⟨o, ho, rfl, c1, c2⟩
  · rw [c1, c2, ob_some, ob_some, if_pos bt_f, if_pos bt_f]
    exact st_bad h (Or.inl rfl)
  · rw [c1, c2, ob_some, ob_some, if_neg bt_t, if_neg bt_t, outl_ok u (by omega), ob_some]
    rcases there_cases (o := o) rfl (by omega) (h.1.rr (o := o) (by omega)) b with ⟨t1, t2⟩ | ⟨k, hk, rfl, hh, t1, t2⟩
    · rw [t1, t2, ob_some, ob_some, if_pos bt_f, if_pos bt_f]
      by_cases z : b = 0
      · rw [if_pos z]; exact st_bad h (Or.inl rfl)
      · rw [if_neg z]; exact st_bad h (Or.inl rfl)
    · rw [t1, t2, ob_some, ob_some, if_neg bt_t, if_neg bt_t]
      by_cases z : nI k = 0
      · rw [if_pos z, if_pos z]; exact st_bad h (Or.inl rfl)
      · obtain ⟨u', v', e1, e2, e3, e4, e5⟩ := match_ok h ho
        rw [if_neg z, if_neg z, show X0_outline u 0 0 = some 0 from outl_ok u (o := 0) (by decide), ob_some, ob_some, e1, ob_some, e2, ob_some]
        unfold X2_partnerOf
        rw [isNum hk, ob_some, if_neg bt_t, rd_ok hk (by decide), ob_some, ob_some, rd_ok hk (by decide), ob_some]
        exact ⟨u' 75 k, u', v', rfl, by rw [e3 k hk], h.viaM e4 e5⟩
def strB (w : Nat → Int32) (s : Nat) : Bool := decide (0 < s) && (decide (w s ≠ -1) && decide (w s ≠ nI s))
theorem strangers_ok {u v : Mem} (h : ∀ s, s < 16 → u 75 s = v 14 s) : X2_countStrangers u = some (nI (cnt (strB (u 75)) 16)) ∧ ((X9_strangers_L9 v fu 0 1).bind fun x4 => some (x4, v)) = some (nI (cnt (strB (u 75)) 16), v) := by
  have key : ∀ (x : Int32) (k : Nat), 0 < k → x = u 75 k → ((if x = -1 then some (0 : Int32) else if x = nI k then some 0 else some 1)) = if b2i (strB (u 75) k) = 0 then some 0 else some 1 := by
    intro x k hk hx
    subst hx
    unfold strB
    by_cases e1 : u 75 k = -1
    · rw [if_pos e1]; simp [e1, b2i]
    · rw [if_neg e1]
      by_cases e2 : u 75 k = nI k
      · rw [if_pos e2]; simp [e2, b2i]
      · rw [if_neg e2]; simp [e1, e2, hk, b2i]
  have c1 : nI (cnt (strB (u 75)) 1) = 0 := by
    have : strB (u 75) 0 = false := by unfold strB; simp
    simp only [cnt, this]; rfl
  constructor
  · obtain ⟨r, h1, h2⟩ := lp_fu (fun n (y : Int32) z => X2_countStrangers_L4 u n y z) 1 16 (fun k y => 0 < k ∧ y = nI (cnt (strB (u 75)) k)) (fun r => r = nI (cnt (strB (u 75)) 16)) 0 (by decide) (by decide) ⟨by decide, c1.symm⟩
      (fun n y h => ⟨y, by rw [X2_countStrangers_L4, if_pos (by decide)], h.2⟩)
      (fun n y k hk ⟨k0, hy⟩ => by
        left
        refine ⟨_, ⟨by omega, rfl⟩, ?_⟩
        rw [X2_countStrangers_L4, if_neg (by rw [nle_16 (by omega)]; omega), rd_ok hk (by decide), ob_some, ob_some, hy, nar_1, key _ k k0 rfl]
        exact cstep _ _ (fun z => X2_countStrangers_L4 u n z (nI (k + 1))))
    unfold X2_countStrangers
    rw [show X2_countStrangers_L4 u fu 0 1 = some r from h1, h2]; rfl
  · obtain ⟨r, h1, h2⟩ := lp_fu (fun n (y : Int32) z => X9_strangers_L9 v n y z) 1 16 (fun k y => 0 < k ∧ y = nI (cnt (strB (u 75)) k)) (fun r => r = nI (cnt (strB (u 75)) 16)) 0 (by decide) (by decide) ⟨by decide, c1.symm⟩
      (fun n y h => ⟨y, by rw [X9_strangers_L9, if_pos (by decide)], h.2⟩)
      (fun n y k hk ⟨k0, hy⟩ => by
        left
        refine ⟨_, ⟨by omega, rfl⟩, ?_⟩
        rw [X9_strangers_L9, if_neg (by rw [nle_16 (by omega)]; omega), rd_ok hk (by decide), ob_some, ob_some, hy, nar_1, key _ k k0 (h k hk).symm]
        exact cstep _ _ (fun z => X9_strangers_L9 v n z (nI (k + 1))))
    rw [show X9_strangers_L9 v fu 0 1 = some r from h1, h2]; rfl
theorem tellDesk_ok {u v : Mem} (h : Rel u v) {w : Nat} (hw : w ≤ 3) : ∃ r u' v', X8_tellDesk u (nI w) = some (r, u') ∧ X9_toldOf v (nI w) = some (r, v') ∧ mS u u' ∧ ∀ i, i ≠ 14 → v' i = v i := by
  unfold X8_tellDesk X9_toldOf
  rcases (show w = 0 ∨ w = 1 ∨ w = 2 ∨ w = 3 by omega) with e | e | e | e <;> subst e
  · rw [if_pos (by decide), if_neg (by decide), show rd 258 (v 1) (256 + nI 0) = some (v 1 256) from rd_ok (i := 256) (by decide) (by decide), ob_some]
    exact ⟨_, u, v, rfl, by rw [← h.1.1.2.1], fun _ _ _ _ => rfl, fun _ _ => rfl⟩
  · rw [if_neg (by decide), if_pos (by decide), if_neg (by decide), show rd 258 (v 1) (256 + nI 1) = some (v 1 257) from rd_ok (i := 257) (by decide) (by decide), ob_some]
    exact ⟨_, u, v, rfl, by rw [← h.1.1.2.2], fun _ _ _ _ => rfl, fun _ _ => rfl⟩
  · obtain ⟨u', v', e1, e2, e3, e4, e5⟩ := match_ok h (o := 1) (Or.inl rfl)
    obtain ⟨s1, s2⟩ := strangers_ok e3
    rw [if_neg (by decide), if_neg (by decide), if_pos (by decide), show X0_outline u 0 0 = some 0 from outl_ok u (o := 0) (by decide), ob_some, if_pos (by decide), ob_some, show X0_outline u 0 1 = some 1 from outl_ok u (o := 1) (by decide), ob_some, e1, ob_some, s1, ob_some]
    unfold X9_strangers
    rw [show nI 2 - 1 = nI 1 by decide, e2, ob_some, s2, ob_2]
    exact ⟨_, u', v', rfl, rfl, e4, e5⟩
  · obtain ⟨u', v', e1, e2, e3, e4, e5⟩ := match_ok h (o := 2) (Or.inr rfl)
    obtain ⟨s1, s2⟩ := strangers_ok e3
    rw [if_neg (show ¬ nI 3 = 0 by decide), if_neg (show ¬ nI 3 = 1 by decide), if_pos (show (2 : Int32) ≤ nI 3 by decide), show X0_outline u 0 0 = some 0 from outl_ok u (o := 0) (by decide), ob_some, if_neg (show ¬ nI 3 = 2 by decide), ob_some, show X0_outline u 0 2 = some 2 from outl_ok u (o := 2) (by decide), ob_some, e1, ob_some, s1, ob_some]
    unfold X9_strangers
    rw [show nI 3 - 1 = nI 2 by decide, e2, ob_some, s2, ob_2]
    exact ⟨_, u', v', rfl, rfl, e4, e5⟩
theorem st_told {u v : Mem} (h : Rel u v) (a : Int32) : St (X8_told u a) (X9_told v a) := by
  unfold X8_told X9_told
  rcases in_cases a (n := 3) (by decide) with ⟨d1, d2⟩ | ⟨w, w3, rfl, d2⟩
  · rw [show X9_in a 0 3 = some false from d2, ob_some, if_pos bt_f]
    by_cases z : a < 0
    · rw [if_pos z]
      exact st_bad h (Or.inl rfl)
    · rw [if_neg z, if_neg (show ¬ a ≤ 3 by rcases d1 with d1 | d1; exact absurd d1 z; exact d1)]
      exact st_bad h (Or.inl rfl)
  · obtain ⟨r, u', v', e1, e2, e3, e4⟩ := tellDesk_ok h w3
    rw [show X9_in (nI w) 0 3 = some true from d2, ob_some, if_neg bt_t, if_neg (i_nn (by omega)), if_pos (by rw [nel_3 (by omega)]; exact w3), e1, ob_2, e2, ob_2]
    exact ⟨r, u', v', rfl, rfl, h.viaM e3 e4⟩
