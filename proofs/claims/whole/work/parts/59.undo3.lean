/-! ===== PHASE B: merging, step (f): all rounds ===== -/
theorem scan {I : Nat → Bool} {b : Nat → Int32} {N : Nat} {u0 v0 u v : Mem} {x y : Int32} (h : Jh I N u0 v0 u v) (hg : Hung I b 16 u) (h0 : I 0 = true) {e : Nat} (he : e ≤ 16) : ∀ d k n, k + d = e → 0 < k → (∀ j, 0 < j → j < e → I j = true → onR (PF (u 49)) j = false) → X9_breakRings_L15 x (n + d) y (nI k) v = X9_breakRings_L15 x n y (nI e) v := by
  intro d
  induction d with
  | zero =>
    intro k n h1 h2 h3
    rw [show k = e by omega]; rfl
  | succ d ih =>
    intro k n h1 h2 h3
    have hk : k < 16 := by omega
    rw [show n + (d + 1) = (n + d) + 1 by omega, X9_breakRings_L15, if_neg (by rw [nle_16 (by omega)]; omega), in3 h.2.2.2.1 hk, ob_some, nar_1]
    cases hI : I k
    · rw [if_pos bt_f]
      exact ih (k + 1) n (by omega) (by omega) h3
    · rw [if_neg bt_t, isOnRing_ok h hg h0 h2 hk hI, ob_some, h3 k h2 (by omega) hI, if_pos bt_f]
      exact ih (k + 1) n (by omega) (by omega) h3
theorem rings_main {u0 v0 : Mem} {p : Nat} (hB : MB u0 v0 p) : ∀ (M : Nat) (u v : Mem) (pb : Nat → Bool) (m x7 n f N : Nat), Jh (inM u0) N u0 v0 u v → Hung (inM u0) (u0 46) 16 u → PB u pb m → msr (inM u0) (PF (u 49)) pb < M → x7 + M ≤ 33 → N + M ≤ 120 → M < n → 16 * M < f →
    ∃ u' v', ((X3_leastInRing u).bind fun r => X3_undoRings_L28 n r (nI x7) u) = some u' ∧ X9_breakRings_L15 (nI p) f (nI m) (nI 1) v = some v' ∧ Jh (inM u0) (N + M) u0 v0 u' v' ∧ Hung (inM u0) (u0 46) 16 u' ∧ ∀ j, 0 < j → j < 16 → inM u0 j = true → onR (PF (u' 49)) j = false := by
  intro M
  induction M with
  | zero => intro u v pb m x7 n f N h hg hb hm; omega
  | succ M ih =>
    intro u v pb m x7 n f N h hg hb hm h7 hN hn hf
    have i0 := inM_root hB
    obtain ⟨n, rfl⟩ : ∃ n', n = n' + 1 := ⟨n - 1, by omega⟩
    obtain ⟨r, q1, q2⟩ := leastInRing_ok h hg i0
    rw [q1, ob_some]
    rcases q2 with ⟨s, s0, s16, rfl, hI, hr, hmin⟩ | ⟨rfl, hno⟩
    · obtain ⟨u', v', pb', m', e1, e2, e3, e4, e5, e6⟩ := ring_round hB h hg hb (by omega) s0 s16 hI hr
      obtain ⟨u2, v2, g1, g2, g3, g4, g5⟩ := ih u' v' pb' m' (x7 + 1) n (f - s) (N + 1) e3 e4 e5 (by omega) (by omega) (by omega) (by omega) (by omega)
      refine ⟨u2, v2, ?_, ?_, ?_, g4, g5⟩
      · rw [e1 n x7 (by omega)]; exact g1
      · have sc := scan (x := nI p) (y := nI m) h hg i0 (e := s) (by omega) (s - 1) 1 (f - s + 1) (by omega) (by decide) (fun j a b c => hmin j a b c)
        rw [show f - s + 1 + (s - 1) = f by omega] at sc
        rw [sc, e2]; exact g2
      · rw [show N + (M + 1) = N + 1 + M by omega]; exact g3
    · refine ⟨u, v, ?_, ?_, ?_, hg, hno⟩
      · rw [X3_undoRings_L28]
        by_cases e : (32 : Int32) ≤ nI x7
        · rw [if_pos e]
        · rw [if_neg e, if_pos rfl]
      · have sc := scan (x := nI p) (y := nI m) h hg i0 (e := 16) (by omega) 15 1 (f - 15) (by omega) (by decide) (fun j a b c => hno j a b c)
        rw [show f - 15 + 15 = f by omega] at sc
        rw [sc, show f - 15 = (f - 16) + 1 by omega, X9_breakRings_L15, if_pos (by decide)]
      · obtain ⟨a1, a2, a3, a4, a5, a6, a7, a8, nn, hnn, hmc⟩ := h
        exact ⟨a1, a2, a3, a4, a5, a6, a7, a8, nn, by omega, hmc⟩
theorem bnar0 : bnar 0 = 0 := by decide
theorem upm_self (u : Mem) (i : Nat) : upm u i (u i) = u := by
  funext j
  by_cases e : j = i
  · subst e; rw [upm_same]
  · rw [upm_ne _ _ e]
theorem stFx {u0 v0 u v : Mem} {p : Nat} (hB : MB u0 v0 p) (h : Jh (inM u0) 80 u0 v0 u v) (hg : Hung (inM u0) (u0 46) 16 u) : ∃ u' v', X3_undoRings u = some u' ∧ X9_breakRings v = some v' ∧ Jh (inM u0) 112 u0 v0 u' v' ∧ Hung (inM u0) (u0 46) 16 u' ∧ ∀ j, 0 < j → j < 16 → inM u0 j = true → onR (PF (u' 49)) j = false := by
  obtain ⟨r, hL, w, hr, hw0, hw⟩ := lp_fu (fun n (y : Mem) z => X3_undoRings_L2 n z y) 0 16 (fun k y => ∃ f, y = upm u 62 f ∧ ∀ j, j < k → f j = 0) (fun r => ∃ f, r = upm u 62 f ∧ True ∧ ∀ j, j < 16 → f j = 0) u (by decide) (by decide) ⟨u 62, (upm_self u 62).symm, fun j hj => by omega⟩
    (fun n y ⟨f, hf, hz⟩ => ⟨y, by rw [X3_undoRings_L2, if_pos (by decide)], f, hf, trivial, hz⟩)
    (fun n y k hk ⟨f, hf, hz⟩ => by
      left
      refine ⟨upm u 62 (upd f k 0), ⟨_, rfl, fun j hj => ?_⟩, ?_⟩
      · by_cases e : j = k
        · rw [e, upd_s]
        · rw [upd_n _ _ e]; exact hz j (by omega)
      · rw [X3_undoRings_L2, if_neg (by rw [nle_16 (by omega)]; omega), bnar0, stI_ok hk (by decide), ob_some, nar_1, hf, upm_same, upm_upm])
  subst hr
  have h2 : Jh (inM u0) 80 u0 v0 (upm u 62 w) v := h.p62
  have e49 : upm u 62 w 49 = u 49 := upm_ne _ _ (by decide)
  have hg2 : Hung (inM u0) (u0 46) 16 (upm u 62 w) := fun j a b c => by rw [e49]; exact hg j a b c
  have hpb : PB (upm u 62 w) (fun _ => false) 0 := ⟨by decide, fun t ht => ⟨by rw [upm_same]; exact hw t ht, by simp⟩⟩
  have hms : msr (inM u0) (PF ((upm u 62 w) 49)) (fun _ => false) < 31 := by
    unfold msr
    have k1 : cnt (fun t => decide (0 < t) && !(fun _ => false) t) 16 ≤ 15 := by decide
    have k2 : cnt (fun t => decide (0 < t) && (inM u0 t && decide (PF ((upm u 62 w) 49) t ≠ 0))) 16 ≤ cnt (fun t => decide (0 < t)) 16 := cnt_mono (fun k hk hq => by
      simp only [Bool.and_eq_true] at hq
      exact hq.1)
    have k3 : cnt (fun t => decide (0 < t)) 16 = 15 := by decide
    omega
  obtain ⟨u', v', g1, g2, g3, g4, g5⟩ := rings_main hB 31 _ v _ 0 0 fu fu 80 h2 hg2 hpb hms (by decide) (by decide) (by decide) (by decide)
  refine ⟨u', v', ?_, ?_, ?_, g4, g5⟩
  · unfold X3_undoRings
    rw [show X3_undoRings_L2 fu 0 u = some (upm u 62 w) from hL, ob_some]
    cases hq : X3_leastInRing (upm u 62 w) with
    | none => rw [hq] at g1; cases g1
    | some r5 =>
      rw [hq, ob_some] at g1
      rw [ob_some, show X3_undoRings_L28 fu r5 0 (upm u 62 w) = some u' from g1]; rfl
  · unfold X9_breakRings
    rw [show rd 258 (v 1) 256 = some (v 1 256) from rd_ok (i := 256) (by decide) (by decide), ob_some, (hB.keep h.1 h.2.1).2.2.2, show X9_breakRings_L15 (nI p) fu 0 1 v = some v' from g2]; rfl
  · obtain ⟨a1, a2, a3, a4, a5, a6, a7, a8, nn, hnn, hmc⟩ := g3
    exact ⟨a1, a2, a3, a4, a5, a6, a7, a8, nn, by omega, hmc⟩
