/-! ===== PHASE B: merging, step (f): the rounds ===== -/
def msr (I : Nat → Bool) (P : Nat → Nat) (pb : Nat → Bool) : Nat := cnt (fun t => decide (0 < t) && !pb t) 16 + cnt (fun t => decide (0 < t) && (I t && decide (P t ≠ 0))) 16
theorem PF_upd {f g : Nat → Int32} {t r j : Nat} (hr : r < 16) (h0 : 0 < t) (h : g = upd f t (nI r)) : PF g j = if j = t then r else PF f j := by
  subst h
  by_cases e : j = t
  · subst e
    rw [if_pos rfl]
    exact PF_of (by omega) hr (upd_s _ _ _)
  · rw [if_neg e]
    exact PF_same (upd_n _ _ e)
theorem Hung.put {I : Nat → Bool} {b : Nat → Int32} {k r : Nat} {u u' : Mem} (h : Hung I b 16 u) (hr : r < 16) (hIr : I r = true) (h3 : u' 49 = upd (u 49) k (nI r)) : Hung I b 16 u' := by
  intro j h0 hj hI
  rw [h3]
  by_cases e : j = k
  · subst e
    rw [upd_s]
    exact ⟨r, hr, rfl, Or.inl hIr, fun _ => hIr⟩
  · rw [upd_n _ _ e]
    exact h j h0 hj hI
theorem msr_root {I : Nat → Bool} {P P' : Nat → Nat} {pb : Nat → Bool} {s : Nat} (h0 : 0 < s) (hs : s < 16) (hI : I s = true) (hP : P s ≠ 0) (h : ∀ j, P' j = if j = s then 0 else P j) : msr I P' pb < msr I P pb := by
  unfold msr
  have : cnt (fun t => decide (0 < t) && (I t && decide (P t ≠ 0))) 16 = cnt (fun t => decide (0 < t) && (I t && decide (P' t ≠ 0))) 16 + 1 := by
    refine cnt_one (s := s) hs (fun k hk hne => ?_) ?_ ?_
    · simp only [h k, if_neg hne]
    · simp [h s]
    · simp [h0, hI, hP]
  omega
theorem msr_back {I : Nat → Bool} {P P' : Nat → Nat} {pb pb' : Nat → Bool} {s r : Nat} (h0 : 0 < s) (hs : s < 16) (hI : I s = true) (hP : P s ≠ 0) (hb : pb s = false) (h : ∀ j, P' j = if j = s then r else P j) (h2 : ∀ j, pb' j = if j = s then true else pb j) : msr I P' pb' < msr I P pb := by
  unfold msr
  have e1 : cnt (fun t => decide (0 < t) && !pb t) 16 = cnt (fun t => decide (0 < t) && !pb' t) 16 + 1 := by
    refine cnt_one (s := s) hs (fun k hk hne => ?_) ?_ ?_
    · simp only [h2 k, if_neg hne]
    · simp [h2 s]
    · simp [h0, hb]
  have e2 : cnt (fun t => decide (0 < t) && (I t && decide (P' t ≠ 0))) 16 ≤ cnt (fun t => decide (0 < t) && (I t && decide (P t ≠ 0))) 16 := by
    refine cnt_mono (fun k hk hq => ?_)
    by_cases e : k = s
    · subst e; simp [h0, hI, hP]
    · simp only [h k, if_neg e] at hq
      exact hq
  omega
theorem rehangR {u : Mem} {t : Nat} {x r : Int32} (ht : t < 16) (hx : trF (u 49) t 0 = x) : X3_rehangFromRing u (nI t) r = (X6_tell u 0 5 (nI t) x).bind fun m => some (upm m 49 (upd (m 49) t r)) := by
  unfold X3_rehangFromRing
  rw [trait0' ht, ob_some, hx]
  have pt : ∀ m : Mem, stO m 49 (X4_put (m 49) (nI t) 0 r) = some (upm m 49 (upd (m 49) t r)) := by
    intro m
    unfold stO
    rw [show X4_put (m 49) (nI t) 0 r = some (upd (m 49) (16 * 0 + t) r) from put_ok (w := 0) ht (by decide), show 16 * 0 + t = t by omega]; rfl
  simp only [pt, ob_some]
/-- one section is hung elsewhere, on both sides -/
theorem ring_hang {I : Nat → Bool} {b : Nat → Int32} {N t r : Nat} {u0 v0 u v : Mem} (h : Jh I N u0 v0 u v) (hg : Hung I b 16 u) (h0 : I 0 = true) (ht0 : 0 < t) (ht : t < 16) (hI : I t = true) (hr : r < 16) (hIr : I r = true) (hN : N < 120) : ∃ u' v', X3_rehangFromRing u (nI t) (nI r) = some u' ∧ ((X9_conflict v 5 (nI t) (v 1 (192 + t))).bind fun m => stI 258 m 1 (192 + nI t) (nI r)) = some v' ∧ Jh I (N + 1) u0 v0 u' v' ∧ Hung I b 16 u' ∧ u' 49 = upd (u 49) t (nI r) ∧ u' 62 = u 62 ∧ FM u u' ∧ FN v v' := by
  obtain ⟨nn, hnn, hmc⟩ := h.2.2.2.2.2.2.2.2
  obtain ⟨p1, p2, p3, p4⟩ := h.par hg h0 ht0 ht hI
  have hx : trF (u 49) t 0 = nI (PF (u 49) t) := by
    rw [trF_here (by rw [h.hF ht]; exact hI), show 16 * 0 + t = t by omega]; exact p2
  obtain ⟨u', v', t1, t2, t3, t4, t5, t6⟩ := tell_ok (by omega) hmc 5 (nI t) (nI (PF (u 49) t))
  rw [rehangR ht hx, t1, ob_some, p1, t2, ob_some, st192 ht]
  have e49 : u' 49 = u 49 := t4 49 (by decide) (by decide) (by decide) (by decide)
  have e1 : v' 1 = v 1 := t5 1 (by decide) (by decide)
  have f1 : FM u (upm u' 49 (upd (u' 49) t (nI r))) := (FM.tell t4).tr FM.p49
  have f2 : FN v (upm v' 1 (upd (v' 1) (192 + t) (nI r))) := (FN.tell t5 t6).tr (FN.p1 (by omega))
  have g49 : (upm u' 49 (upd (u' 49) t (nI r))) 49 = upd (u 49) t (nI r) := by rw [upm_same, e49]
  refine ⟨_, _, rfl, rfl, h.set ht0 ht hI hr f1 f2 g49 (by rw [upm_same, e1]) (t3.keep (upm_ne _ _ (by decide)) (upm_ne _ _ (by decide)) (upm_ne _ _ (by decide)) (upm_ne _ _ (by decide)) (by rw [upm_ne _ _ (by decide)]) (by rw [upm_ne _ _ (by decide)])) (by omega), hg.put hr hIr g49, g49, ?_, f1, f2⟩
  rw [upm_ne _ _ (by decide), t4 62 (by decide) (by decide) (by decide) (by decide)]
theorem Jh.p62 {I : Nat → Bool} {N : Nat} {u0 v0 u v : Mem} {f : Nat → Int32} (h : Jh I N u0 v0 u v) : Jh I N u0 v0 (upm u 62 f) v := by
  obtain ⟨a1, a2, a3, a4, a5, a6, a7, a8, n, hn, hm⟩ := h
  have e : upm u 62 f 49 = u 49 := upm_ne _ _ (by decide)
  refine ⟨fun i x1 x2 x3 x4 x5 x6 x7 => by rw [upm_ne _ _ x2]; exact a1 i x1 x2 x3 x4 x5 x6 x7, a2, ?_, a4, ?_, ?_, ?_, ?_, n, hn, hm.keep (upm_ne _ _ (by decide)) (upm_ne _ _ (by decide)) (upm_ne _ _ (by decide)) (upm_ne _ _ (by decide)) rfl rfl⟩
  all_goals rw [e]
  · exact a3
  · exact a5
  · exact a6
  · exact a7
  · exact a8
theorem isNum {t : Nat} (ht : t < 16) : X8_isNumber (nI t) = some true := by
  unfold X8_isNumber
  rw [if_neg (i_nn (by omega)), if_neg (by rw [nle_16 (by omega)]; omega)]
theorem bnar1 : bnar 1 = 1 := by decide
/-- a round: on both sides the same section, to the same parent -/
theorem ring_round {u0 v0 u v : Mem} {p N m s : Nat} {pb : Nat → Bool} (hB : MB u0 v0 p) (h : Jh (inM u0) N u0 v0 u v) (hg : Hung (inM u0) (u0 46) 16 u) (hb : PB u pb m) (hN : N < 120) (hs0 : 0 < s) (hs : s < 16) (hI : inM u0 s = true) (hr : onR (PF (u 49)) s = true) :
    ∃ u' v' pb' m', (∀ n x7, x7 < 32 → X3_undoRings_L28 (n + 1) (nI s) (nI x7) u = (X3_leastInRing u').bind fun r => X3_undoRings_L28 n r (nI (x7 + 1)) u') ∧ (∀ n, X9_breakRings_L15 (nI p) (n + 1) (nI m) (nI s) v = X9_breakRings_L15 (nI p) n (nI m') (nI 1) v') ∧ Jh (inM u0) (N + 1) u0 v0 u' v' ∧ Hung (inM u0) (u0 46) 16 u' ∧ PB u' pb' m' ∧ msr (inM u0) (PF (u' 49)) pb' < msr (inM u0) (PF (u 49)) pb := by
  have i0 := inM_root hB
  have hB' := hB.keep h.1 h.2.1
  have hp := hB.2.1
  have hC := h.clo hg i0
  have hh : hF (u 49) s = true := by rw [h.hF hs]; exact hI
  have b46 : u 46 = u0 46 := h.1.at (by omega)
  have ha := h.2.2.2.1
  have hup : ∀ t, t < 16 → belN (PF (u 49)) 16 s t = true → hF (u 49) t = true ∧ v 1 (192 + t) = u 49 t := by
    intro t ht hb
    rw [belN_iff] at hb
    obtain ⟨i, -, e⟩ := hb
    have := hC.clo.up i s hs hh
    rw [e] at this
    refine ⟨this.2, (h.2.2.2.2.1 t ht ?_).symm⟩
    rw [← h.hF ht]; exact this.2
  obtain ⟨rm, r1, r2, r3⟩ := ringFrom_ok h hg i0 hs0 hs hI hr
  have h58 := br58 (I := inM u0) hB' hup hb r1 r3 15 fu (-1) (by decide) (by decide)
  have hy0 : ∀ (n : Nat) (x12 : Int32), lst (cand u p s pb) 15 (-1) = x12 → X9_breakRings_L15 (nI p) (n + 1) (nI m) (nI s) v = ((if x12 = -1 then some (0 : Int32) else (X9_parentOf v 0 x12).bind fun r23 => (X9_nearest v r23).bind fun r24 => some r24).bind fun x14 => (if x12 = -1 then some (0 : Int32) else some (1 <<< (x12 &&& 31))).bind fun (x16 : Int32) => (if x12 = -1 then some (nI s) else some x12).bind fun x18 => (X9_parentOf v 3 x18).bind fun r20 => (X9_conflict v 5 x18 r20).bind fun mu21 => (stI 258 mu21 1 (192 + x18) x14).bind fun mu22 => X9_breakRings_L15 (nI p) n (nI m ||| x16) 1 mu22) := by
    intro n x12 hx12
    rw [X9_breakRings_L15, if_neg (by rw [nle_16 (by omega)]; omega), in3 ha hs, ob_some, hI, if_neg bt_t, isOnRing_ok h hg i0 hs0 hs hI, ob_some, hr, if_neg bt_t, r2, ob_some, show X9_breakRings_L58 (nI p) (nI m) v (nI rm) fu (-1) 15 = _ from h58, ob_some, hx12]
  have hx0 : ∀ n x7, x7 < 32 → X3_undoRings_L28 (n + 1) (nI s) (nI x7) u = (X3_leastToPutBack u (nI s)).bind fun r11 => (X8_isNumber r11).bind fun r12 => (if b2i r12 = 0 then (X3_rehangFromRing u (nI s) 0).bind fun mu16 => some mu16 else (X4_trait (u 46) r11 0).bind fun r17 => (X3_nearest u r17).bind fun r18 => (X3_rehangFromRing u r11 r18).bind fun mu19 => (stI 16 mu19 62 r11 (bnar 1)).bind fun mu20 => some mu20).bind fun mu13 => (X3_leastInRing mu13).bind fun r15 => X3_undoRings_L28 n r15 (nI (x7 + 1)) mu13 := by
    intro n x7 h7
    rw [X3_undoRings_L28, if_neg (by rw [nle_32 (by omega)]; omega), if_neg (i_m1 (by omega)), nar_1]
  obtain ⟨r, q1, q2⟩ := leastToPutBack_ok hp hB'.2.2.1 hC hs hh hb
  rcases q2 with ⟨t, t0, t16, rfl, tc, tm⟩ | ⟨rfl, tn⟩
  · have hl : lst (cand u p s pb) 15 (-1) = nI t := lst_least t0 tc tm 15 (-1) (by omega)
    have tb : belN (PF (u 49)) 16 s t = true := by
      unfold cand at tc
      cases z : belN (PF (u 49)) 16 s t
      · rw [z] at tc; cases tc
      · rfl
    have tpb : pb t = false := by
      unfold cand at tc
      cases z : pb t
      · rfl
      · rw [z] at tc; simp at tc
    have tB : hF (u0 46) t = true := by
      unfold cand mvM at tc
      rw [b46] at tc
      cases z : hF (u0 46) t
      · rw [z] at tc; simp at tc
      · rfl
    have tI : inM u0 t = true := by
      have := (hup t t16 tb).1
      rw [h.hF t16] at this; exact this
    have hVb := (hB.1 0 (by decide)).2
    have hRb : RR (u0 46) (v 1) 0 := by
      have := (hB'.1 0 (by decide)).1
      rw [show u (46 + 0) = u0 46 from b46] at this
      exact this
    obtain ⟨c1, c2, c3⟩ := hVb.1.par t0 t16 tB
    obtain ⟨rr, n1, n2, n3, n4⟩ := near_ok b46 hVb hRb h.2.2.1 ha i0 c2 (Or.inr c3)
    obtain ⟨u', v', k1, k2, k3, k4, k5, k6, k7, k8⟩ := ring_hang h hg i0 t0 t16 tI n1 n2 hN
    have kst : stI 16 u' 62 (nI t) (bnar 1) = some (upm u' 62 (upd (u' 62) t 1)) := by
      rw [bnar1, stI_ok t16 (by decide)]
    have e49 : (upm u' 62 (upd (u' 62) t 1)) 49 = upd (u 49) t (nI rr) := by rw [upm_ne _ _ (by decide)]; exact k5
    refine ⟨upm u' 62 (upd (u' 62) t 1), v', fun j => if j = t then true else pb j, m ||| 2 ^ t, fun n x7 h7 => ?_, fun n => ?_, k3.p62, ?_, ?_, ?_⟩
    · rw [hx0 n x7 h7, q1, ob_some, isNum t16, ob_some, if_neg bt_t, b46, show X4_trait (u0 46) (nI t) 0 = some (nI (PF (u0 46) t)) from trait0 hVb.1 t0 t16 tB, ob_some, show X3_nearest u (nI (PF (u0 46) t)) = some (nI rr) from n3, ob_some, k1, ob_some, kst, ob_some, ob_some]
    · rw [hy0 n _ hl]
      have pp : X9_parentOf v 0 (nI t) = some (nI (PF (u0 46) t)) := by
        obtain ⟨-, -, a1, -⟩ := rr_yes hRb t16 tB
        rw [rPar (x := 0) (o := 0) rfl rfl (by decide) t16, show 64 * 0 + t = 0 + t by omega, ← a1]
        congr 1
      rw [if_neg (i_m1 (by omega)), if_neg (i_m1 (by omega)), if_neg (i_m1 (by omega)), pp, ob_some, n4, ob_some, ob_some, ob_some, ob_some, par3 t16, ob_some, bt_one t t16, nx_or]
      have : ((X9_conflict v 5 (nI t) (v 1 (192 + t))).bind fun mu21 => (stI 258 mu21 1 (192 + nI t) (nI rr)).bind fun mu22 => X9_breakRings_L15 (nI p) n (nI (m ||| 2 ^ t)) 1 mu22) = ((X9_conflict v 5 (nI t) (v 1 (192 + t))).bind fun m => stI 258 m 1 (192 + nI t) (nI rr)).bind fun mu22 => X9_breakRings_L15 (nI p) n (nI (m ||| 2 ^ t)) 1 mu22 := by
        rw [Option.bind_assoc]
      rw [this, k2, ob_some]; rfl
    · exact hg.put n1 n2 e49
    · refine ⟨Nat.or_lt_two_pow (n := 16) hb.1 (Nat.pow_lt_pow_right (by decide) t16), fun j hj => ?_⟩
      rw [upm_same, k6]
      by_cases e : j = t
      · subst e
        rw [upd_s]
        simp [Nat.testBit_or, Nat.testBit_two_pow]
      · rw [upd_n _ _ e]
        have := hb.2 j hj
        rw [this.1]
        simp [e, Nat.testBit_or, Nat.testBit_two_pow, this.2]
        intro z; exact absurd z.symm e
    · exact msr_back (r := rr) t0 t16 tI (ring_nz rfl hs0 hr tb) tpb (fun j => PF_upd n1 t0 e49) (fun j => rfl)
  · have hl : lst (cand u p s pb) 15 (-1) = -1 := lst_none 15 (-1) (fun j a b => tn j a (by omega))
    obtain ⟨u', v', k1, k2, k3, k4, k5, k6, k7, k8⟩ := ring_hang (r := 0) h hg i0 hs0 hs hI (by decide) i0 hN
    refine ⟨u', v', pb, m, fun n x7 h7 => ?_, fun n => ?_, k3, k4, ?_, ?_⟩
    · rw [hx0 n x7 h7, q1, ob_some, show X8_isNumber (-1) = some false by decide, ob_some, if_pos bt_f, show X3_rehangFromRing u (nI s) 0 = some u' from k1, ob_some, ob_some]
    · rw [hy0 n _ hl]
      simp only [if_true]
      rw [ob_some, ob_some, ob_some, par3 hs, ob_some, show nI m ||| 0 = nI m from by rw [show (0 : Int32) = nI 0 from rfl, nx_or, Nat.or_zero]]
      have : ((X9_conflict v 5 (nI s) (v 1 (192 + s))).bind fun mu21 => (stI 258 mu21 1 (192 + nI s) 0).bind fun mu22 => X9_breakRings_L15 (nI p) n (nI m) 1 mu22) = ((X9_conflict v 5 (nI s) (v 1 (192 + s))).bind fun m => stI 258 m 1 (192 + nI s) (nI 0)).bind fun mu22 => X9_breakRings_L15 (nI p) n (nI m) 1 mu22 := by
        rw [Option.bind_assoc]; rfl
      rw [this, k2, ob_some]; rfl
    · refine ⟨hb.1, fun j hj => ?_⟩
      rw [k6]; exact hb.2 j hj
    · exact msr_root hs0 hs hI (ring_nz rfl hs0 hr (by rw [belN_iff]; exact ⟨0, by decide, rfl⟩)) (fun j => PF_upd (by decide) hs0 k5)
