/-! ===== PHASE B: merging, step (e): lost parents ===== -/
theorem near_ok {I : Nat → Bool} {b : Nat → Int32} {u v : Mem} (hb : u 46 = b) (hV : Val b) (hR : RR b (v 1) 0) (hh : ∀ j, j < 16 → u 49 (64 + j) = if I j = true then 1 else 0) (ha : ∀ j, j < 16 → (v 1 (192 + j) = -9 ↔ I j = false)) (h0 : I 0 = true) {q : Nat} (hq : q < 16) (hqi : I q = true ∨ hF b q = true) :
    ∃ r, r < 16 ∧ I r = true ∧ X3_nearest u (nI q) = some (nI r) ∧ X9_nearest v (nI q) = some (nI r) := by
  have hC := hV.1.clo
  have ex : ∃ i, i < 16 ∧ I (up (PF b) i q) = true := by
    rcases hqi with z | z
    · exact ⟨0, by decide, z⟩
    · obtain ⟨i, hi, h1, -⟩ := hV.2.1.first hC hq z
      exact ⟨i, hi, by rw [h1]; exact h0⟩
  obtain ⟨i, hi, hmin⟩ := least ex
  have hmn : ∀ j, j < i → I (up (PF b) j q) = false := fun j hj => by
    have := hmin j hj
    cases h : I (up (PF b) j q)
    · rfl
    · exact absurd ⟨by omega, h⟩ this
  have hbase : ∀ j, j < i → up (PF b) j q < 16 ∧ hF b (up (PF b) j q) = true := by
    intro j hj
    have hqb : hF b q = true := by
      rcases hqi with z | z
      · have := hmn 0 (by omega)
        rw [show up (PF b) 0 q = q from rfl, z] at this
        cases this
      · exact z
    exact hC.up j q hq hqb
  have hlast : up (PF b) i q < 16 := by
    cases i with
    | zero => exact hq
    | succ i =>
      rw [up_succ]
      have := hbase i (by omega)
      exact (hC.2.2 _ this.1 this.2).1
  have hx4 : ∀ d n s, s + d = i → 16 - s < n → X3_nearest_L4 u n (nI (up (PF b) s q)) (nI s) = some (nI (up (PF b) i q)) := by
    intro d
    induction d with
    | zero =>
      intro n s h1 h2
      obtain ⟨n, rfl⟩ : ∃ n', n = n' + 1 := ⟨n - 1, by omega⟩
      have : s = i := by omega
      subst this
      rw [X3_nearest_L4, if_neg (by rw [nle_16 (by omega)]; omega), holds_ok hlast, ob_some, hF_of (hh _ hlast), hi.2, if_neg bt_t]
    | succ d ih =>
      intro n s h1 h2
      obtain ⟨n, rfl⟩ : ∃ n', n = n' + 1 := ⟨n - 1, by omega⟩
      have hs := hbase s (by omega)
      have hn := hmn s (by omega)
      have ne : up (PF b) s q ≠ 0 := fun z => by rw [z, h0] at hn; cases hn
      have t0 : X4_trait (u 46) (nI (up (PF b) s q)) 0 = some (nI (PF b (up (PF b) s q))) := by
        rw [hb, show X4_trait b (nI (up (PF b) s q)) 0 = some (trF b (up (PF b) s q) 0) from trait_ok (w := 0) hs.1 (by decide), trF_par hV.1 hs.1 hs.2, if_neg ne]
      rw [X3_nearest_L4, if_neg (by rw [nle_16 (by omega)]; omega), holds_ok hs.1, ob_some, hF_of (hh _ hs.1), hn, if_pos bt_f, t0, ob_some, nar_1, ← up_succ (PF b) s q]
      exact ih n (s + 1) (by omega) (by omega)
  have hin : ∀ k, k < 16 → X9_isIn v 3 (nI k) = some (I k) := by
    intro k hk
    rw [rIn (x := 3) (o := 3) rfl rfl (by decide) hk, show 64 * 3 + k = 192 + k by omega]
    congr 1
    have ha := ha k hk
    cases hI : I k
    · simp [ha.mpr hI]
    · have : v 1 (192 + k) ≠ -9 := fun z => by rw [ha.mp z] at hI; cases hI
      simp [this]
  have hy4 : ∀ d n s, s + d = i → 16 - s < n → X9_nearest_L2 v n (nI (up (PF b) s q)) = some (nI (up (PF b) i q)) := by
    intro d
    induction d with
    | zero =>
      intro n s h1 h2
      obtain ⟨n, rfl⟩ : ∃ n', n = n' + 1 := ⟨n - 1, by omega⟩
      have : s = i := by omega
      subst this
      rw [X9_nearest_L2, hin _ hlast, ob_some, hi.2, if_neg bt_t]
    | succ d ih =>
      intro n s h1 h2
      obtain ⟨n, rfl⟩ : ∃ n', n = n' + 1 := ⟨n - 1, by omega⟩
      have hs := hbase s (by omega)
      have hn := hmn s (by omega)
      have ne : up (PF b) s q ≠ 0 := fun z => by rw [z, h0] at hn; cases hn
      obtain ⟨-, -, a1, -⟩ := rr_yes hR hs.1 hs.2
      have t0 : X9_parentOf v 0 (nI (up (PF b) s q)) = some (nI (PF b (up (PF b) s q))) := by
        rw [rPar (x := 0) (o := 0) rfl rfl (by decide) hs.1, show 64 * 0 + up (PF b) s q = 0 + up (PF b) s q by omega, ← a1, (hV.1.par (by omega) hs.1 hs.2).1]
      rw [X9_nearest_L2, hin _ hs.1, ob_some, hn, if_pos bt_f, t0, ob_some, ← up_succ (PF b) s q]
      exact ih n (s + 1) (by omega) (by omega)
  refine ⟨up (PF b) i q, hlast, hi.2, ?_, ?_⟩
  · exact hx4 i fu 0 (by omega) (by decide)
  · unfold X9_nearest
    rw [show X9_nearest_L2 v fu (nI q) = some (nI (up (PF b) i q)) from hy4 i fu 0 (by omega) (by decide)]
    rfl
/-- the merged row while it is hung: I its sections, both rows alike -/
def Jh (I : Nat → Bool) (N : Nat) (u0 v0 u v : Mem) : Prop := FM u0 u ∧ FN v0 v ∧ (∀ j, j < 16 → u 49 (64 + j) = if I j = true then 1 else 0) ∧ (∀ j, j < 16 → (v 1 (192 + j) = -9 ↔ I j = false)) ∧ (∀ j, j < 16 → I j = true → u 49 j = v 1 (192 + j)) ∧ (∀ w, (w = 2 ∨ w = 3) → ∀ j, j < 16 → I j = true → u 49 (16 * w + j) = v 1 (192 + 16 * w + j) ∧ ∃ a, a < 100 ∧ u 49 (16 * w + j) = nI a) ∧ u 49 0 = -1 ∧ u 49 16 = 0 ∧ ∃ n, n ≤ N ∧ MC u v n
theorem Jh.set {I : Nat → Bool} {N N' : Nat} {u0 v0 u v u' v' : Mem} {k r n' : Nat} (h : Jh I N u0 v0 u v) (h0 : 0 < k) (hk : k < 16) (hI : I k = true) (hr : r < 16) (h1 : FM u u') (h2 : FN v v') (h3 : u' 49 = upd (u 49) k (nI r)) (h4 : v' 1 = upd (v 1) (192 + k) (nI r)) (h5 : MC u' v' n') (h6 : n' ≤ N') : Jh I N' u0 v0 u' v' := by
  obtain ⟨a1, a2, a3, a4, a5, a6, a7, a8, -⟩ := h
  refine ⟨a1.tr h1, a2.tr h2, fun j hj => ?_, fun j hj => ?_, fun j hj hIj => ?_, fun w hw j hj hIj => ?_, ?_, ?_, n', h6, h5⟩
  · rw [h3, upd_n _ _ (by omega)]; exact a3 j hj
  · rw [h4]
    by_cases e : j = k
    · subst e
      rw [upd_s, hI]
      exact ⟨fun z => absurd z (i_m9 (by omega)), fun z => by cases z⟩
    · rw [upd_n _ _ (by omega)]; exact a4 j hj
  · rw [h3, h4]
    by_cases e : j = k
    · subst e
      rw [upd_s, upd_s]
    · rw [upd_n _ _ (by omega), upd_n _ _ (by omega)]; exact a5 j hj hIj
  · rw [h3, h4, upd_n _ _ (by omega), upd_n _ _ (by omega)]
    exact a6 w hw j hj hIj
  · rw [h3, upd_n _ _ (by omega)]; exact a7
  · rw [h3, upd_n _ _ (by omega)]; exact a8
theorem rh_step {u : Mem} {n s q : Nat} {I : Nat → Bool} (hs : s < 16) (hq : q < 16) (hh : ∀ j, j < 16 → u 49 (64 + j) = if I j = true then 1 else 0) (hp : u 49 s = nI q) (hI : I s = true) : X3_rehang_L2 (n + 1) (nI s) u = if I q = true then X3_rehang_L2 n (nI (s + 1)) u else (X3_nearest u (nI q)).bind fun r => (X6_tell (upm u 49 (upd (u 49) s r)) 0 4 (nI s) (nI q)).bind fun m => X3_rehang_L2 n (nI (s + 1)) m := by
  have hF1 : hF (u 49) s = true := by rw [hF_of (hh s hs)]; exact hI
  have t0 : X4_trait (u 49) (nI s) 0 = some (nI q) := by
    rw [show X4_trait (u 49) (nI s) 0 = some (trF (u 49) s 0) from trait_ok (w := 0) hs (by decide), trF_here hF1, show 16 * 0 + s = s by omega, hp]
  have pt : ∀ r, stO u 49 (X4_put (u 49) (nI s) 0 r) = some (upm u 49 (upd (u 49) s r)) := by
    intro r
    unfold stO
    rw [show X4_put (u 49) (nI s) 0 r = some (upd (u 49) (16 * 0 + s) r) from put_ok (w := 0) hs (by decide), show 16 * 0 + s = s by omega]; rfl
  rw [X3_rehang_L2, if_neg (by rw [nle_16 (by omega)]; omega), t0, ob_some, holds_ok hs, ob_some, hF1, if_neg bt_t, holds_ok hq, ob_some, hF_of (hh q hq), nar_1]
  cases I q
  · rw [if_pos bt_f, if_neg (by decide)]
    simp only [pt, ob_some]
  · rw [if_neg bt_t, if_pos rfl]
theorem rh_skip {u : Mem} {n s : Nat} {I : Nat → Bool} (hs : s < 16) (hh : ∀ j, j < 16 → u 49 (64 + j) = if I j = true then 1 else 0) (hI : I s = false) : X3_rehang_L2 (n + 1) (nI s) u = X3_rehang_L2 n (nI (s + 1)) u := by
  rw [X3_rehang_L2, if_neg (by rw [nle_16 (by omega)]; omega), show X4_trait (u 49) (nI s) 0 = some (trF (u 49) s 0) from trait_ok (w := 0) hs (by decide), ob_some, holds_ok hs, ob_some, hF_of (hh s hs), hI, if_pos bt_f, nar_1]
theorem in3 {v : Mem} {I : Nat → Bool} (ha : ∀ j, j < 16 → (v 1 (192 + j) = -9 ↔ I j = false)) {k : Nat} (hk : k < 16) : X9_isIn v 3 (nI k) = some (I k) := by
  rw [rIn (x := 3) (o := 3) rfl rfl (by decide) hk, show 64 * 3 + k = 192 + k by omega]
  congr 1
  have ha := ha k hk
  cases hI : I k
  · simp [ha.mpr hI]
  · have : v 1 (192 + k) ≠ -9 := fun z => by rw [ha.mp z] at hI; cases hI
    simp [this]
theorem par3 {v : Mem} {k : Nat} (hk : k < 16) : X9_parentOf v 3 (nI k) = some (v 1 (192 + k)) := by
  rw [rPar (x := 3) (o := 3) rfl rfl (by decide) hk, show 64 * 3 + k = 192 + k by omega]
theorem st192 {v : Mem} {k : Nat} {r : Int32} (hk : k < 16) : stI 258 v 1 (192 + nI k) r = some (upm v 1 (upd (v 1) (192 + k) r)) := by
  rw [nal_192, stI_ok (by omega) (by decide)]
def Hung (I : Nat → Bool) (b : Nat → Int32) (k : Nat) (u : Mem) : Prop := ∀ j, 0 < j → j < 16 → I j = true → ∃ q, q < 16 ∧ u 49 j = nI q ∧ (I q = true ∨ hF b q = true) ∧ (j < k → I q = true)
theorem Hung.set {I : Nat → Bool} {b : Nat → Int32} {k r : Nat} {u u' : Mem} (h : Hung I b k u) (hr : r < 16) (hIr : I r = true) (h3 : u' 49 = upd (u 49) k (nI r)) : Hung I b (k + 1) u' := by
  intro j h0 hj hI
  rw [h3]
  by_cases e : j = k
  · subst e
    rw [upd_s]
    exact ⟨r, hr, rfl, Or.inl hIr, fun _ => hIr⟩
  · rw [upd_n _ _ e]
    obtain ⟨q, a, b, c, d⟩ := h j h0 hj hI
    exact ⟨q, a, b, c, fun z => d (by omega)⟩
theorem stE {u0 v0 u v : Mem} {p : Nat} (hB : MB u0 v0 p) (h : Jh (inM u0) 64 u0 v0 u v) (hg : Hung (inM u0) (u0 46) 1 u) : ∃ u' v', X3_rehang u = some u' ∧ X9_merge_L99 fu 1 v = some v' ∧ Jh (inM u0) 80 u0 v0 u' v' ∧ Hung (inM u0) (u0 46) 16 u' := by
  have hr := inM_root hB
  obtain ⟨u', v', e1, e2, e3⟩ := lk X3_rehang_L2 X9_merge_L99 16 (by decide) (fun k u v => 0 < k ∧ Jh (inM u0) (64 + k) u0 v0 u v ∧ Hung (inM u0) (u0 46) k u) (fun n u => by rw [X3_rehang_L2, if_pos (by decide)]) (fun n u => by rw [X9_merge_L99, if_pos (by decide)])
    (fun n m u v k hk ⟨h0, hJ, hG⟩ => by
      have hF1 := hJ.1
      have hF2 := hJ.2.1
      have hh := hJ.2.2.1
      have ha := hJ.2.2.2.1
      obtain ⟨nn, hnn, hmc⟩ := hJ.2.2.2.2.2.2.2.2
      have hy : X9_merge_L99 (m + 1) (nI k) v = if inM u0 k = true then (X9_isIn v 3 (v 1 (192 + k))).bind fun r39 => if b2i r39 = 0 then (X9_conflict v 4 (nI k) (v 1 (192 + k))).bind fun mu40 => (X9_nearest mu40 (v 1 (192 + k))).bind fun r41 => X9_merge_L99 m (nI (k + 1)) (upm mu40 1 (upd (mu40 1) (192 + k) r41)) else X9_merge_L99 m (nI (k + 1)) v else X9_merge_L99 m (nI (k + 1)) v := by
        rw [X9_merge_L99, if_neg (by rw [nle_16 (by omega)]; omega), par3 hk, ob_some, in3 ha hk, ob_some, nar_1]
        cases inM u0 k
        · rw [if_pos bt_f]; rfl
        · rw [if_neg bt_t, if_pos rfl]
          simp only [st192 hk, ob_some]
      rw [hy]
      cases hI : inM u0 k
      · refine ⟨u, v, ⟨by omega, ?_, ?_⟩, rh_skip hk hh hI, rfl⟩
        · obtain ⟨a1, a2, a3, a4, a5, a6, a7, a8, -⟩ := hJ
          exact ⟨a1, a2, a3, a4, a5, a6, a7, a8, nn, by omega, hmc⟩
        · intro j x1 x2 x3
          obtain ⟨q, a, b, c, d⟩ := hG j x1 x2 x3
          refine ⟨q, a, b, c, fun z => ?_⟩
          by_cases e : j = k
          · rw [e, hI] at x3; cases x3
          · exact d (by omega)
      · obtain ⟨q, q1, q2, q3, -⟩ := hG k h0 hk hI
        have hv : v 1 (192 + k) = nI q := by rw [← hJ.2.2.2.2.1 k hk hI]; exact q2
        rw [rh_step hk q1 hh q2 hI, if_pos rfl, hv, in3 ha q1, ob_some]
        cases hIq : inM u0 q
        · rw [if_neg (by decide), if_pos bt_f]
          have hb46 : u 46 = u0 46 := hF1.at (by omega)
          obtain ⟨r, r1, r2, r3, -⟩ := near_ok hb46 (hB.1 0 (by decide)).2 (by
            have := (hB.keep hF1 hF2).1 0 (by decide)
            rw [show u (46 + 0) = u0 46 from hb46] at this
            exact this.1) hh ha hr q1 q3
          rw [r3, ob_some]
          have mcs : MC (upm u 49 (upd (u 49) k (nI r))) v nn := hmc.keep (upm_ne _ _ (by decide)) (upm_ne _ _ (by decide)) (upm_ne _ _ (by decide)) (upm_ne _ _ (by decide)) rfl rfl
          obtain ⟨u', v', t1, t2, t3, t4, t5, t6⟩ := tell_ok (by omega) mcs 4 (nI k) (nI q)
          rw [t1, t2, ob_some, ob_some]
          have hF1' : FM u0 u' := (hF1.tr FM.p49).tr (FM.tell t4)
          have hF2' : FN v0 v' := hF2.tr (FN.tell t5 t6)
          have e1' : v' 1 = v 1 := t5 1 (by decide) (by decide)
          obtain ⟨r', r1', r2', r3', r4'⟩ := near_ok (u := u) (v := v') hb46 (hB.1 0 (by decide)).2 (by
            have := (hB.keep hF1 hF2).1 0 (by decide)
            rw [show u (46 + 0) = u0 46 from hb46] at this
            rw [e1']
            exact this.1) hh (by rw [e1']; exact ha) hr q1 q3
          have er : r' = r := by
            rw [r3] at r3'
            exact (i_inj (by omega) (by omega) (Option.some.inj r3')).symm
          subst er
          rw [r4', ob_some]
          have e49 : u' 49 = upd (u 49) k (nI r') := by rw [t4 49 (by decide) (by decide) (by decide) (by decide), upm_same]
          refine ⟨u', _, ⟨by omega, hJ.set h0 hk hI r1 (FM.p49.tr (FM.tell t4)) ((FN.tell t5 t6).tr (FN.p1 (by omega))) e49 (by rw [upm_same, e1']) (t3.keep rfl rfl rfl rfl (by rw [upm_ne _ _ (by decide)]) (by rw [upm_ne _ _ (by decide)])) (by omega), hG.set r1 r2 e49⟩, rfl, rfl⟩
        · rw [if_pos rfl, if_neg bt_t]
          refine ⟨u, v, ⟨by omega, ?_, ?_⟩, rfl, rfl⟩
          · obtain ⟨a1, a2, a3, a4, a5, a6, a7, a8, -⟩ := hJ
            exact ⟨a1, a2, a3, a4, a5, a6, a7, a8, nn, by omega, hmc⟩
          · intro j x1 x2 x3
            obtain ⟨q', a, b, c, d⟩ := hG j x1 x2 x3
            refine ⟨q', a, b, c, fun z => ?_⟩
            by_cases e : j = k
            · have : q' = q := by
                rw [e, q2] at b
                exact (i_inj (by omega) (by omega) b).symm
              rw [this]; exact hIq
            · exact d (by omega))
    1 u v fu fu (by decide) (by decide) (by decide) ⟨by decide, by
      obtain ⟨a1, a2, a3, a4, a5, a6, a7, a8, nn, hn, hm⟩ := h
      exact ⟨a1, a2, a3, a4, a5, a6, a7, a8, nn, by omega, hm⟩, hg⟩
  refine ⟨u', v', ?_, e2, e3.2.1, e3.2.2⟩
  unfold X3_rehang
  show (X3_rehang_L2 fu (nI 1) u).bind _ = _
  rw [e1]; rfl
theorem Jt.hung {u0 v0 u v : Mem} {p : Nat} (hB : MB u0 v0 p) (h : Jt u0 v0 p (fun _ => 16) 64 u v) : Jh (inM u0) 64 u0 v0 u v ∧ Hung (inM u0) (u0 46) 1 u := by
  obtain ⟨a1, a2, a3, a4, a5, a6, a7, a8⟩ := h
  have hr := inM_root hB
  refine ⟨⟨a1, a2, a3, a4, fun j hj hI => ?_, fun w hw j hj hI => ?_, ?_, a7, a8⟩, fun j h0 hj hI => ?_⟩
  · have := a5 0 (Or.inl rfl) j hj hj hI
    rw [show 16 * 0 + j = j by omega, show 192 + 16 * 0 + j = 192 + j by omega] at this
    rw [this.1, this.2]
  · have := a5 w (Or.inr hw) j hj hj hI
    rw [this.1, this.2]
    refine ⟨rfl, ?_⟩
    obtain ⟨o, ho, h1, h2⟩ := vl_from hB hI w
    have hV := (hB.1 o (by omega)).2
    rw [h2, trF_here h1]
    have hvv := hV.2.2.2.2 j hj h1
    rcases hw with rfl | rfl
    · exact hvv.1
    · exact hvv.2
  · have := (a5 0 (Or.inl rfl) 0 (by decide) (by decide) hr).1
    rw [(vl_root hB).1] at this
    exact this
  · have := (a5 0 (Or.inl rfl) j hj hj hI).1
    rw [show 16 * 0 + j = j by omega] at this
    obtain ⟨o, ho, h1, h2⟩ := vl_from hB hI 0
    have hV := (hB.1 o (by omega)).2
    rw [trF_par hV.1 hj h1, if_neg (by omega)] at h2
    obtain ⟨b1, b2, b3⟩ := hV.1.par h0 hj h1
    refine ⟨_, b2, by rw [this, h2], ?_, fun z => by omega⟩
    cases hb : hF (u0 46) (PF (u0 (46 + o)) j)
    · left
      unfold inM
      rw [hb, if_neg (by decide)]
      rcases ho with rfl | rfl
      · rw [show hF (u0 47) _ = true from b3]; rfl
      · rw [show hF (u0 48) _ = true from b3]; simp
    · exact Or.inr rfl
