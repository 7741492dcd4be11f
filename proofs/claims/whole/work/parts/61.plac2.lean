/-! ===== PHASE B: merging, step (g): the loops ===== -/
theorem Jh.pl {I : Nat → Bool} {N : Nat} {u0 v0 u v : Mem} {g : Nat → Int32} (h : Jh I N u0 v0 u v) (hg : ∀ i, (i < 208 ∨ 224 ≤ i) → g i = v 1 i) : Jh I N u0 v0 u (upm v 1 g) := by
  obtain ⟨a1, a2, a3, a4, a5, a6, a7, a8, n, hn, hm⟩ := h
  refine ⟨a1, ⟨fun i x1 x2 x3 => by rw [upm_ne _ _ x2]; exact a2.1 i x1 x2 x3, fun i hi => by rw [upm_ne _ _ (by decide)]; exact a2.2.1 i hi, fun i hi => by rw [upm_same, hg i (by omega)]; exact a2.2.2 i hi⟩, a3, fun j hj => ?_, fun j hj hI => ?_, fun w hw j hj hI => ?_, a7, a8, n, hn, hm.keep rfl rfl rfl rfl (by rw [upm_ne _ _ (by decide)]) (by rw [upm_ne _ _ (by decide)])⟩
  · rw [upm_same, hg _ (by omega)]; exact a4 j hj
  · rw [upm_same, hg _ (by omega)]; exact a5 j hj hI
  · rw [upm_same, hg _ (by omega)]; exact a6 w hw j hj hI
theorem ch_eq {f : Nat → Int32} {k : Nat} {x : Int32} (h0 : 0 < k) : chF f k x = (hF f k && decide (f k = x)) := by unfold chF; simp [h0]
theorem r183 {I : Nat → Bool} {N : Nat} {u0 v0 u v : Mem} {p s : Nat} (hB : MB u v p) (h : Jh I N u0 v0 u v) (hs0 : 0 < s) (hs : s < 16) : X9_merge_L183 (nI s) v fu 0 1 = some (if I s = true then nI (rkM (u 49) (kyM u p) s) else 0) := by
  have ha := h.2.2.2.1
  cases hI : I s
  · rw [fu_s, X9_merge_L183, if_neg (by decide), in3 ha hs, ob_some, hI, if_pos bt_f]; rfl
  · rw [if_pos rfl]
    obtain ⟨r, h1, h2⟩ := lp_fu (fun n (y : Int32) z => X9_merge_L183 (nI s) v n y z) 1 16 (fun k y => 0 < k ∧ y = nI (cnt (ahM (u 49) (kyM u p) s) k)) (fun r => r = nI (rkM (u 49) (kyM u p) s)) 0 (by decide) (by decide) ⟨by decide, by
        have : ahM (u 49) (kyM u p) s 0 = false := by unfold ahM chF; simp
        simp only [cnt, this]; rfl⟩
      (fun n y h => ⟨y, by rw [X9_merge_L183, if_pos (by decide)], h.2⟩)
      (fun n y k hk ⟨hk0, hy⟩ => by
        left
        refine ⟨_, ⟨by omega, rfl⟩, ?_⟩
        rw [X9_merge_L183, if_neg (by rw [nle_16 (by omega)]; omega), in3 ha hs, ob_some, hI, if_neg bt_t, in3 ha hk, ob_some, par3 hk, par3 hs, ob_some, ob_some, hy, nar_1]
        have es : v 1 (192 + s) = u 49 s := (h.2.2.2.2.1 s hs hI).symm
        have key : ((if nI k = nI s then some (0 : Int32) else if b2i (I k) = 0 then some 0 else if v 1 (192 + k) = v 1 (192 + s) then some 1 else some 0).bind fun x26 => (if x26 = 0 then some (0 : Int32) else (X9_keyOf v (nI k)).bind fun r30 => (X9_keyOf v (nI s)).bind fun r31 => if r30 < r31 then some 1 else (X9_keyOf v (nI k)).bind fun r32 => (X9_keyOf v (nI s)).bind fun r33 => if r32 = r33 then (if nI s ≤ nI k then some 0 else some 1) else some 0)) = if b2i (ahM (u 49) (kyM u p) s k) = 0 then some 0 else some 1 := by
          by_cases e : k = s
          · subst e
            have : ahM (u 49) (kyM u p) k k = false := by
              unfold ahM
              have : ahK (kyM u p) k k = false := by
                cases z : ahK (kyM u p) k k
                · rfl
                · rw [ahK_iff] at z; omega
              rw [this]; simp
            rw [if_pos rfl, this]; rfl
          · rw [if_neg (by rw [c_eq (by omega) (by omega)]; exact e)]
            unfold ahM
            rw [ch_eq hk0, h.hF hk]
            cases hIk : I k
            · rfl
            · rw [if_neg bt_t, es, ← h.2.2.2.2.1 k hk hIk, rkey_ok (b := u 49) hB h hk0 hk hIk, rkey_ok (b := u 49) hB h hs0 hs hI]
              by_cases e1 : u 49 k = u 49 s
              · rw [if_pos e1, ob_some, if_neg (by decide)]
                simp only [ob_some]
                unfold ahK
                by_cases e2 : kyM u p k < kyM u p s
                · rw [if_pos e2]; simp [e1, e2, b2i]
                · rw [if_neg e2]
                  by_cases e3 : kyM u p k = kyM u p s
                  · rw [if_pos e3]
                    by_cases e4 : k < s
                    · rw [if_neg (by rw [c_le (by omega) (by omega)]; omega)]; simp [e1, e3, e4, b2i]
                    · rw [if_pos (by rw [c_le (by omega) (by omega)]; omega)]; simp [e1, e3, e4, b2i, Int32.lt_irrefl]
                  · rw [if_neg e3]; simp [e1, e2, e3, b2i]
              · rw [if_neg e1, ob_some, if_pos rfl]; simp [e1, b2i]
        rw [← Option.bind_assoc, key]
        exact cstep _ _ (fun z => X9_merge_L183 (nI s) v n z (nI (k + 1))))
    rw [show X9_merge_L183 (nI s) v fu 0 1 = some r from h1, h2]
theorem rk_congr {f f' K : Nat → Int32} {s : Nat} (hs : s < 16) (h1 : ∀ j, j < 16 → f' j = f j) (h2 : ∀ j, 64 ≤ j → f' j = f j) : rkM f' K s = rkM f K s := by
  unfold rkM
  refine cnt_congr (fun q hq => ?_)
  unfold ahM chF hF
  rw [h1 q hq, h1 s hs, h2 _ (by omega)]
def plX (I : Nat → Bool) (f K : Nat → Int32) (k : Nat) : Nat → Int32 := fun i => if 16 < i ∧ i < 16 + k ∧ I (i - 16) = true then nI (rkM f K (i - 16)) else f i
def gX (I : Nat → Bool) (g f K : Nat → Int32) (k : Nat) : Nat → Int32 := fun i => if 208 < i ∧ i < 208 + k then (if I (i - 208) = true then nI (rkM f K (i - 208)) else 0) else g i
theorem plX_o {I : Nat → Bool} {f K : Nat → Int32} {k i : Nat} (hk : k ≤ 16) (h : i ≤ 16 ∨ 32 ≤ i) : plX I f K k i = f i := by unfold plX; rw [if_neg]; omega
theorem gX_o {I : Nat → Bool} {g f K : Nat → Int32} {k i : Nat} (hk : k ≤ 16) (h : i ≤ 208 ∨ 224 ≤ i) : gX I g f K k i = g i := by unfold gX; rw [if_neg]; omega
theorem stG {u0 v0 u v : Mem} {p : Nat} (hB : MB u0 v0 p) (h : Jh (inM u0) 112 u0 v0 u v) (hg : Hung (inM u0) (u0 46) 16 u) (hno : ∀ j, 0 < j → j < 16 → inM u0 j = true → onR (PF (u 49)) j = false) : ∃ u' v', X3_orderChildren u = some u' ∧ ((stI 258 v 1 208 0).bind fun mu15 => X9_merge_L173 fu 1 mu15) = some v' ∧ RR (u' 49) (v' 1) 192 ∧ Val (u' 49) ∧ FM u0 u' ∧ FN v0 v' ∧ (∃ n, n ≤ 112 ∧ MC u' v' n) ∧ ∀ j, j < 16 → hF (u' 49) j = inM u0 j := by
  have hp := hB.2.1
  have i0 := inM_root hB
  have hBu := hB.keep h.1 h.2.1
  have ky : ∀ w s, kyM (upm u 63 w) p s = kyM u p s := by
    intro w s
    unfold kyM
    rw [upm_ne _ _ (show 46 + p ≠ 63 by omega), upm_ne _ _ (show 46 + (3 - p) ≠ 63 by omega), upm_ne _ _ (show 49 ≠ 63 by omega)]
  obtain ⟨r, hL, w, hr, hw⟩ := lp_fu (fun n (y : Mem) z => X3_orderChildren_L2 n z y) 1 16 (fun k y => ∃ f, y = upm u 63 f ∧ ∀ j, 0 < j → j < k → f j = kyM u p j) (fun r => ∃ f, r = upm u 63 f ∧ ∀ j, 0 < j → j < 16 → f j = kyM u p j) u (by decide) (by decide) ⟨u 63, (upm_self u 63).symm, fun j _ hj => by omega⟩
    (fun n y ⟨f, hf, hz⟩ => ⟨y, by rw [X3_orderChildren_L2, if_pos (by decide)], f, hf, hz⟩)
    (fun n y k hk ⟨f, hf, hz⟩ => by
      left
      have hkey : X3_keyOf y (nI k) = some (kyM u p k) := by
        rw [key_ok hp (by rw [hf, upm_ne _ _ (by decide)]; exact hBu.2.2.1) hk, hf, ky]
      refine ⟨upm u 63 (upd f k (kyM u p k)), ⟨_, rfl, fun j j0 hj => ?_⟩, ?_⟩
      · by_cases e : j = k
        · rw [e, upd_s]
        · rw [upd_n _ _ e]; exact hz j j0 (by omega)
      · rw [X3_orderChildren_L2, if_neg (by rw [nle_16 (by omega)]; omega), hkey, ob_some, stI_ok hk (by decide), ob_some, nar_1, hf, upm_same, upm_upm])
  have e49 : upm u 63 w 49 = u 49 := upm_ne _ _ (by decide)
  have h1 : Jh (inM u0) 112 u0 v0 (upm u 63 w) v := by
    obtain ⟨a1, a2, a3, a4, a5, a6, a7, a8, n, hn, hm⟩ := h
    refine ⟨fun i x1 x2 x3 x4 x5 x6 x7 => by rw [upm_ne _ _ x3]; exact a1 i x1 x2 x3 x4 x5 x6 x7, a2, ?_, a4, ?_, ?_, ?_, ?_, n, hn, hm.keep (upm_ne _ _ (by decide)) (upm_ne _ _ (by decide)) (upm_ne _ _ (by decide)) (upm_ne _ _ (by decide)) rfl rfl⟩
    all_goals rw [e49]
    · exact a3
    · exact a5
    · exact a6
    · exact a7
    · exact a8
  have h2 := h1.pl (g := upd (v 1) 208 0) (fun i hi => upd_n _ _ (by omega))
  have hv : stI 258 v 1 208 0 = some (upm v 1 (upd (v 1) 208 0)) := stI_ok (i := 208) (by decide) (by decide)
  generalize hu1 : upm u 63 w = u1 at *
  generalize hv1 : upm v 1 (upd (v 1) 208 0) = v1 at *
  have hB1 := hB.keep h2.1 h2.2.1
  have hKK : ∀ j, 0 < j → j < 16 → u1 63 j = kyM u1 p j := by
    intro j a b
    rw [← hu1, upm_same, ky]; exact hw j a b
  obtain ⟨u', v', e1, e2, e3⟩ := lk X3_orderChildren_L27 X9_merge_L173 16 (by decide) (fun k u v => 0 < k ∧ k ≤ 16 ∧ u = upm u1 49 (plX (inM u0) (u1 49) (kyM u1 p) k) ∧ v = upm v1 1 (gX (inM u0) (v1 1) (u1 49) (kyM u1 p) k)) (fun n u => by rw [X3_orderChildren_L27, if_pos (by decide)]) (fun n u => by rw [X9_merge_L173, if_pos (by decide)])
    (fun n m u v k hk ⟨k0, k16, hu, hv⟩ => by
      have hJ : Jh (inM u0) 112 u0 v0 u1 v := by
        rw [hv]
        exact h2.pl (fun i hi => gX_o k16 (by omega))
      have hMB : MB u1 v p := hB.keep hJ.1 hJ.2.1
      have hy : X9_merge_L173 (m + 1) (nI k) v = X9_merge_L173 m (nI (k + 1)) (upm v1 1 (gX (inM u0) (v1 1) (u1 49) (kyM u1 p) (k + 1))) := by
        rw [X9_merge_L173, if_neg (by rw [nle_16 (by omega)]; omega), r183 hMB hJ k0 hk, ob_some, i_lit 208, i_add, stI_ok (by omega) (by decide), ob_some, nar_1, hv, upm_same, upm_upm]
        congr 2
        funext i
        unfold gX
        by_cases e : i = 208 + k
        · subst e
          rw [upd_s, if_pos (show 208 < 208 + k ∧ 208 + k < 208 + (k + 1) by omega), show 208 + k - 208 = k by omega]
        · rw [upd_n _ _ e]
          by_cases c : 208 < i ∧ i < 208 + k
          · rw [if_pos c, if_pos (show 208 < i ∧ i < 208 + (k + 1) by omega)]
          · rw [if_neg c, if_neg (by omega)]
      rw [hy]
      have h49 : u 49 = plX (inM u0) (u1 49) (kyM u1 p) k := by rw [hu, upm_same]
      have hh : hF (u 49) k = inM u0 k := by
        rw [← hJ.hF hk]
        unfold hF
        rw [h49, plX_o k16 (by omega)]
      have hx : X3_orderChildren_L27 (n + 1) (nI k) u = X3_orderChildren_L27 n (nI (k + 1)) (upm u1 49 (plX (inM u0) (u1 49) (kyM u1 p) (k + 1))) := by
        rw [X3_orderChildren_L27, if_neg (by rw [nle_16 (by omega)]; omega), holds_ok hk, ob_some, hh, nar_1]
        cases hI : inM u0 k
        · rw [if_pos bt_f, hu]
          congr 2
          funext i
          unfold plX
          by_cases c : 16 < i ∧ i < 16 + k ∧ inM u0 (i - 16) = true
          · rw [if_pos c, if_pos ⟨c.1, by omega, c.2.2⟩]
          · rw [if_neg c]
            by_cases c2 : 16 < i ∧ i < 16 + (k + 1) ∧ inM u0 (i - 16) = true
            · exfalso
              have : i - 16 = k := by
                apply Classical.byContradiction
                intro z
                exact c ⟨c2.1, by omega, c2.2.2⟩
              rw [this, hI] at c2
              cases c2.2.2
            · rw [if_neg c2]
        · have hK2 : ∀ j, 0 < j → j < 16 → u 63 j = kyM u1 p j := by
            intro j a b
            rw [hu, upm_ne _ _ (by decide)]; exact hKK j a b
          have rc : rkM (u 49) (kyM u1 p) k = rkM (u1 49) (kyM u1 p) k := by
            rw [h49]
            exact rk_congr hk (fun j hj => plX_o k16 (by omega)) (fun j hj => plX_o k16 (by omega))
          have pt : ∀ x, stO u 49 (X4_put (u 49) (nI k) 1 x) = some (upm u 49 (upd (u 49) (16 * 1 + k) x)) := by
            intro x
            unfold stO
            rw [show X4_put (u 49) (nI k) 1 x = some (upd (u 49) (16 * 1 + k) x) from put_ok (w := 1) hk (by decide)]; rfl
          rw [if_neg bt_t, countAhead_ok hK2 k0 hk (by rw [hh]; exact hI), ob_some, pt, ob_some, rc, h49, hu, upm_upm]
          congr 2
          funext i
          unfold plX
          by_cases e : i = 16 * 1 + k
          · subst e
            rw [upd_s, if_pos ⟨by omega, by omega, by rw [show 16 * 1 + k - 16 = k by omega]; exact hI⟩, show 16 * 1 + k - 16 = k by omega]
          · rw [upd_n _ _ e]
            by_cases c : 16 < i ∧ i < 16 + k ∧ inM u0 (i - 16) = true
            · rw [if_pos c, if_pos ⟨c.1, by omega, c.2.2⟩]
            · rw [if_neg c, if_neg (fun z => c ⟨z.1, by omega, z.2.2⟩)]
      exact ⟨_, _, ⟨by omega, by omega, rfl, rfl⟩, hx, rfl⟩)
    1 u1 v1 fu fu (by decide) (by decide) (by decide) ⟨by decide, by decide, by
      have : plX (inM u0) (u1 49) (kyM u1 p) 1 = u1 49 := by
        funext i
        unfold plX
        rw [if_neg (by omega)]
      rw [this, upm_self], by
      have : gX (inM u0) (v1 1) (u1 49) (kyM u1 p) 1 = v1 1 := by
        funext i
        unfold gX
        rw [if_neg (by omega)]
      rw [this, upm_self]⟩
  obtain ⟨-, -, hu', hv'⟩ := e3
  have f49 : u' 49 = plX (inM u0) (u1 49) (kyM u1 p) 16 := by rw [hu', upm_same]
  have fv1 : v' 1 = gX (inM u0) (v1 1) (u1 49) (kyM u1 p) 16 := by rw [hv', upm_same]
  have hg1 : Hung (inM u0) (u0 46) 16 u1 := fun j a b c => by rw [e49]; exact hg j a b c
  have hC1 := h2.clo hg1 i0
  have hfo : ∀ i, i < 16 ∨ 32 ≤ i → u' 49 i = u1 49 i := fun i hi => by rw [f49]; exact plX_o (by decide) (by omega)
  have hh' : ∀ j, j < 16 → hF (u' 49) j = inM u0 j := fun j hj => by
    rw [← h2.hF hj]
    unfold hF
    rw [hfo _ (by omega)]
  have hch : ∀ j x, j < 16 → chF (u' 49) j x = chF (u1 49) j x := fun j x hj => by
    unfold chF hF
    rw [hfo _ (by omega), hfo _ (by omega)]
  have hpf : ∀ j, j < 16 → PF (u' 49) j = PF (u1 49) j := fun j hj => PF_same (hfo _ (by omega))
  have hplc : ∀ k, 0 < k → k < 16 → inM u0 k = true → u' 49 (16 + k) = nI (rkM (u1 49) (kyM u1 p) k) ∧ v' 1 (208 + k) = nI (rkM (u1 49) (kyM u1 p) k) := by
    intro k k0 hk hI
    rw [f49, fv1]
    unfold plX gX
    rw [if_pos ⟨by omega, by omega, by rw [show 16 + k - 16 = k by omega]; exact hI⟩, if_pos ⟨by omega, by omega⟩, show 16 + k - 16 = k by omega, show 208 + k - 208 = k by omega, hI, if_pos rfl]
    exact ⟨rfl, rfl⟩
  have hgo : ∀ i, i ≤ 208 ∨ 224 ≤ i → v' 1 i = v1 1 i := fun i hi => by rw [fv1]; exact gX_o (by decide) hi
  refine ⟨u', v', ?_, ?_, ?_, ?_, ?_, ?_, ?_, hh'⟩
  · unfold X3_orderChildren
    rw [show X3_orderChildren_L2 fu 1 u = some r from hL, ob_some, hr, show X3_orderChildren_L27 fu 1 u1 = some u' from e1]; rfl
  · rw [hv, ob_some]; exact e2
  · intro k hk
    cases hI : inM u0 k
    · right
      have a := h2.2.2.1 k hk
      rw [hI] at a
      refine ⟨by rw [hfo _ (by omega)]; exact a, ?_⟩
      rw [hgo _ (by omega)]
      exact (h2.2.2.2.1 k hk).mpr hI
    · left
      have a := h2.2.2.1 k hk
      rw [hI] at a
      refine ⟨by rw [hfo _ (by omega)]; exact a, ?_, ?_, ?_, ?_, ?_⟩
      · rw [hgo _ (by omega)]
        intro z
        rw [(h2.2.2.2.1 k hk).mp z] at hI
        cases hI
      · rw [hgo _ (by omega), hfo _ (by omega)]
        exact h2.2.2.2.2.1 k hk hI
      · by_cases k0 : k = 0
        · subst k0
          rw [f49, plX_o (by decide) (by omega), hgo _ (by omega), ← hv1, upm_same]
          rw [show 192 + 16 + 0 = 208 by omega, upd_s]
          exact h2.2.2.2.2.2.2.2.1
        · have := hplc k (by omega) hk hI
          rw [this.1, show 192 + 16 + k = 208 + k by omega, this.2]
      · rw [hgo _ (by omega), hfo _ (by omega)]
        have := (h2.2.2.2.2.2.1 2 (Or.inl rfl) k hk hI).1
        exact this
      · rw [hgo _ (by omega), hfo _ (by omega)]
        have := (h2.2.2.2.2.2.1 3 (Or.inr rfl) k hk hI).1
        exact this
  · have hclo : CloF (u' 49) := by
      obtain ⟨c1, c2, c3, c4⟩ := hC1
      refine ⟨by rw [hfo _ (by omega)]; exact c1, by rw [hfo _ (by omega)]; exact c2, fun k hk => by rw [hfo _ (by omega)]; exact c3 k hk, fun k a b c => ?_⟩
      rw [hfo _ (by omega)] at c
      obtain ⟨q, q1, q2, q3⟩ := c4 k a b c
      exact ⟨q, q1, by rw [hfo _ (by omega)]; exact q2, by rw [hfo _ (by omega)]; exact q3⟩
    have hacy1 : Acy (hF (u1 49)) (PF (u1 49)) := noring_acy hC1.clo (fun s a b c => by
      rw [e49]
      exact hno s a b (by rw [← h2.hF b]; exact c))
    refine ⟨hclo, ?_, ?_, fun t ht => ⟨fun k hk hc => ?_, fun k l hk hl hc hd he => ?_⟩, fun k hk hh => ?_⟩
    · exact Acy_sub (fun k hk hh => ⟨by rw [h2.hF hk, ← hh' k hk]; exact hh, hpf k hk⟩) hclo.clo hacy1
    · rw [f49, plX_o (by decide) (by omega)]
      exact h2.2.2.2.2.2.2.2.1
    · have c0 := ch_h hc
      have hI : inM u0 k = true := by rw [← hh' k hk]; exact c0.2.1
      rw [hch k _ hk] at hc
      refine ⟨rkM (u1 49) (kyM u1 p) k, ?_, (hplc k c0.1 hk hI).1⟩
      have := rk_lt (K := kyM u1 p) hk hc
      rw [cnt_congr (fun s hs => hch s (nI t) hs)]
      exact this
    · have c0 := ch_h hc
      have d0 := ch_h hd
      have hI : inM u0 k = true := by rw [← hh' k hk]; exact c0.2.1
      have hJ : inM u0 l = true := by rw [← hh' l hl]; exact d0.2.1
      rw [(hplc k c0.1 hk hI).1, (hplc l d0.1 hl hJ).1] at he
      rw [hch k _ hk] at hc
      rw [hch l _ hl] at hd
      refine rk_inj (K := kyM u1 p) hk hl hc hd (i_inj ?_ ?_ he)
      · have := cnt_le (ahM (u1 49) (kyM u1 p) k) 16
        unfold rkM; omega
      · have := cnt_le (ahM (u1 49) (kyM u1 p) l) 16
        unfold rkM; omega
    · have hI : inM u0 k = true := by rw [← hh' k hk]; exact hh
      rw [hfo _ (by omega), hfo _ (by omega)]
      exact ⟨(h2.2.2.2.2.2.1 2 (Or.inl rfl) k hk hI).2, (h2.2.2.2.2.2.1 3 (Or.inr rfl) k hk hI).2⟩
  · rw [hu']
    exact h2.1.tr FM.p49
  · have : Jh (inM u0) 112 u0 v0 u1 v' := by
      rw [hv']
      exact h2.pl (fun i hi => gX_o (by decide) (by omega))
    exact this.2.1
  · obtain ⟨n, hn, hm⟩ := h2.2.2.2.2.2.2.2.2
    refine ⟨n, hn, ?_⟩
    rw [hu', hv']
    exact hm.keep (upm_ne _ _ (by decide)) (upm_ne _ _ (by decide)) (upm_ne _ _ (by decide)) (upm_ne _ _ (by decide)) (by rw [upm_ne _ _ (by decide)]) (by rw [upm_ne _ _ (by decide)])
