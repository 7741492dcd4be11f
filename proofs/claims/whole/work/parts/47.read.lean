/-! ===== PHASE B: a byte within an order; the whole text ===== -/
theorem i_assoc (a b c : Int32) : a + b - c = a + (b - c) := by rw [Int32.sub_eq_add_neg, Int32.sub_eq_add_neg, Int32.add_assoc]
theorem take_in {u v : Mem} {k m : Nat} {F : Nat → Nat} {ch c w g fg : Nat} (hch : ch < 128) (hk : k < 150) (h1 : u 77 3 = nI m) (h2 : v 0 11 = nI m) (h0 : F 0 = 0) (h3 : ∀ j, j ≤ m → v 8 j = nI (F j)) (h4 : ∀ j, j < m → OrdOK u v F j) (h : PSo u v k m F c w g fg) : Tk u v k (X7_takes u (nI ch)) (X9_readByte v (nI ch)) := by
  obtain ⟨o1, o2, c0, c1, hw, w5, o3, o4, o5, gw, o6, o7, f2, fg0, o8, o9, o10, b1, b2⟩ := h
  have hm75 : m < 75 := by omega
  have hl0 : ¬ nI c = 0 := by rw [neq_0 (by omega)]; omega
  unfold X7_takes X9_readByte X9_in
  rw [o2, if_neg hl0, o1]
  by_cases e32 : ch = 32
  · subst e32
    unfold stF
    rw [if_pos (by decide), if_pos (by decide), ob_some, ob_some]
    refine ⟨true, _, _, rfl, rfl, FT.f (by decide), FR.f (by omega), fun _ => ?_⟩
    refine ⟨m, F, by rw [s77 (by decide)]; exact h1, by rw [s00 (by decide)]; exact h2, h0, fun j hj => by rw [n00 (by decide)]; exact h3 j hj, fun j hj => ?_, Or.inr ⟨c, w, g, 0, by rw [s77 (by decide)]; exact o1, by rw [s00 (by decide)]; exact o2, c0, c1, hw, w5, by rw [s77 (by decide)]; exact o3, by rw [s77 (by decide)]; exact o4, by rw [s00 (by decide)]; exact o5, gw, e77, e00, by omega, by omega, by rw [n77 (by decide)]; exact o8, by rw [n00 (by decide)]; exact o9, fun i hi => by rw [n77 (by decide), n00 (by decide)]; exact o10 i hi, by omega, by omega⟩⟩
    exact Ord_keep h4 hj (fun _ _ => rfl) (fun i _ => by rw [n77 (by decide)]) (fun i _ => by rw [n00 (by decide)]) (fun i _ => by rw [n00 (by decide)])
  have n32 : ¬ nI ch = 32 := by rw [neq_32 (by omega)]; exact e32
  rw [if_neg n32, if_neg n32, if_neg (by decide)]
  -- the end of an order, or what can not stand there
  have other : (ch < 48 ∨ 57 < ch) → Tk u v k (if nI ch = 59 then bd2 (X7_closes u) fun r mu => if b2i r = 0 then some (false, mu) else some (true, mu) else some (false, u)) (if nI ch = 59 then (X9_wantsOf (nI c)).bind fun r2 => if r2 ≤ v 0 20 then (stF v 0 19 0).bind fun mu3 => (rd 151 (mu3 8) (mu3 0 11)).bind fun v4 => (stI 151 mu3 8 ((mu3 0 11) + 1) (v4 + (mu3 0 20))).bind fun mu5 => (stF mu5 0 11 ((mu5 0 11) + 1)).bind fun mu6 => some (true, mu6) else some (false, v) else some (false, v)) := by
    intro hno
    by_cases e59 : ch = 59
    · subst e59
      rw [if_pos (by decide), if_pos (by decide), hw, ob_some, o5]
      unfold X7_closes stF
      rw [o3, o4]
      by_cases egw : g = w
      · subst egw
        rw [if_pos rfl, if_pos (Int32.le_refl _), ob_some, ob_some, ob_some, ob_2, if_neg bt_t, ob_some]
        have e11 : upf v 0 19 0 0 11 = nI m := by rw [s00 (by decide)]; exact h2
        rw [e11, rd_ok (by omega) (by decide), ob_some, nar_1, stI_ok (by omega) (by decide), ob_some, ob_some]
        refine ⟨true, _, _, rfl, rfl, ((FT.f (by decide)).tr (FT.f (by decide))).tr (FT.f (by decide)), ((FR.f (by omega)).tr (FR.p (by omega))).tr (FR.f (by omega)), fun _ => ?_⟩
        refine ⟨m + 1, fun j => if j = m + 1 then F m + g else F j, ?_, ?_, ?_, fun j hj => ?_, fun j hj => ?_, Or.inl ⟨?_, ?_, ?_, by omega, ?_⟩⟩
        · rw [e77, s77 (by decide), s77 (by decide), h1, nar_1]
        · rw [e00, upm_ne _ _ (by decide), e11, nar_1]
        · show (if 0 = m + 1 then _ else _) = 0
          rw [if_neg (by omega)]; exact h0
        · show _ = nI (if j = m + 1 then F m + g else F j)
          rw [n00 (by decide), upm_same]
          by_cases e : j = m + 1
          · subst e
            rw [upd_s, if_pos rfl, n00 (by decide), h3 m (Nat.le_refl _), s00 (by decide), o5, i_add]
          · rw [upd_n _ _ e, if_neg e, n00 (by decide)]
            exact h3 j (by omega)
        · by_cases e : j = m
          · subst e
            refine ⟨c, g, c1, hw, w5, by rw [n77 (by decide), n77 (by decide), n77 (by decide)]; exact o8, by rw [n00 (by decide), upm_ne _ _ (by decide), n00 (by decide)]; exact o9, by show (if j + 1 = j + 1 then F j + g else F (j + 1)) = (if j = j + 1 then F j + g else F j) + g; rw [if_pos rfl, if_neg (by omega)], fun i hi => ?_⟩
            have eF : (fun x => if x = j + 1 then F j + g else F x) j = F j := by
              show (if j = j + 1 then F j + g else F j) = F j
              rw [if_neg (by omega)]
            rw [eF, n77 (by decide), n77 (by decide), n77 (by decide), n00 (by decide), upm_ne _ _ (by decide), n00 (by decide)]
            exact o10 i hi
          · exact Ord_keep (m := m) h4 (by omega) (fun j hj => by show (if j = m + 1 then F m + g else F j) = F j; rw [if_neg (by omega)]) (fun i _ => by rw [n77 (by decide), n77 (by decide), n77 (by decide)]) (fun i _ => by rw [n00 (by decide), upm_ne _ _ (by decide), n00 (by decide)]) (fun i _ => by rw [n00 (by decide), upm_ne _ _ (by decide), n00 (by decide)])
        · rw [s77 (by decide), s77 (by decide), e77]
        · rw [s00 (by decide), upm_ne _ _ (by decide), e00]
        · rw [s77 (by decide), e77]
        · show (if m + 1 = m + 1 then F m + g else F (m + 1)) ≤ k + 1
          rw [if_pos rfl]; omega
      · rw [if_neg (by rw [c_eq (by omega) (by omega)]; exact egw), ob_2, if_pos bt_f, if_neg (by rw [c_le (by omega) (by omega)]; omega)]
        exact ⟨false, _, _, rfl, rfl, FT.rf, FR.rf, fun e => by cases e⟩
    · have n59 : ¬ nI ch = 59 := by rw [neq_59 (by omega)]; exact e59
      rw [if_neg n59, if_neg n59]
      exact ⟨false, _, _, rfl, rfl, FT.rf, FR.rf, fun e => by cases e⟩
  by_cases hlo : ch < 48
  · have hlo2 : nI ch < 48 := by rw [ntl_48 (by omega)]; exact hlo
    rw [if_pos hlo2, if_pos hlo2, ob_some, if_pos bt_f]
    exact other (Or.inl hlo)
  have hlo2 : ¬ nI ch < 48 := by rw [ntl_48 (by omega)]; exact hlo
  rw [if_neg hlo2, if_neg hlo2]
  by_cases hhi : 57 < ch
  · have hhi2 : 57 < nI ch := by rw [nlt_57 (by omega)]; exact hhi
    rw [if_pos hhi2, if_pos hhi2, ob_some, if_pos bt_f]
    exact other (Or.inr hhi)
  have hhi2 : ¬ 57 < nI ch := by rw [nlt_57 (by omega)]; exact hhi
  rw [if_neg hhi2, if_neg hhi2, ob_some, if_neg bt_t]
  clear other
  -- a figure
  unfold X7_takesFigure stF
  rw [o6, o7, o5, o4, o3, hw]
  by_cases ef2 : fg = 2
  · subst ef2
    have t2 : nI 2 = 2 := rfl
    rw [if_neg (show ¬ nI 2 = 0 by decide), if_pos t2, if_pos t2, ob_2]
    exact ⟨false, _, _, rfl, rfl, FT.rf, FR.rf, fun e => by cases e⟩
  have nf2 : ¬ nI fg = 2 := by rw [neq_2 (by omega)]; exact ef2
  rw [if_neg nf2, if_neg nf2]
  by_cases ef0 : fg = 0
  · subst ef0
    have t0 : nI 0 = 0 := rfl
    rw [if_pos t0, if_pos t0]
    by_cases egw : g = w
    · subst egw
      rw [if_pos rfl, ob_2, ob_some, if_pos rfl]
      exact ⟨false, _, _, rfl, rfl, FT.rf, FR.rf, fun e => by cases e⟩
    have ngw : ¬ nI g = nI w := by rw [c_eq (by omega) (by omega)]; exact egw
    rw [if_neg ngw, ob_some, ob_some, if_neg ngw, nar_1]
    -- the class
    have a3 : upf u 77 6 (nI (g + 1)) 77 3 = nI m := by rw [s77 (by decide)]; exact h1
    rw [tput_ok (j := g + 1) a3 e77 hm75 (by omega), ob_some]
    have a7 : upm (upf u 77 6 (nI (g + 1))) 79 (upd (upf u 77 6 (nI (g + 1)) 79) (6 * m + (g + 1)) 0) 77 7 = nI 0 := by rw [upm_ne _ _ (by decide), s77 (by decide)]; exact o6
    rw [a7, if_neg (by decide), ob_some]
    have a3' : upf (upm (upf u 77 6 (nI (g + 1))) 79 (upd (upf u 77 6 (nI (g + 1)) 79) (6 * m + (g + 1)) 0)) 77 7 (nI 0 + 1) 77 3 = nI m := by rw [s77 (by decide), upm_ne _ _ (by decide)]; exact a3
    have a6' : upf (upm (upf u 77 6 (nI (g + 1))) 79 (upd (upf u 77 6 (nI (g + 1)) 79) (6 * m + (g + 1)) 0)) 77 7 (nI 0 + 1) 77 6 = nI (g + 1) := by rw [s77 (by decide), upm_ne _ _ (by decide), e77]
    rw [tcell_ok a3' a6' hm75 (by omega), ob_some, tput_ok a3' a6' hm75 (by omega), ob_some, ob_2]
    -- the reference
    rw [h2, rd_ok (by omega) (by decide), ob_some, h3 m (Nat.le_refl _), if_pos t0, ob_some, if_pos t0, ob_some, i_add, show (0 : Int32) = nI 0 from rfl, i_sub (Nat.zero_le _), Nat.sub_zero, stI_ok (by omega) (by decide), ob_some]
    have z21 : upm v 9 (upd (v 9) (F m + g) (nI 0 + nI ch - 48)) 0 21 = nI 0 := by rw [upm_ne _ _ (by decide)]; exact o7
    have z20 : upm v 9 (upd (v 9) (F m + g) (nI 0 + nI ch - 48)) 0 20 = nI g := by rw [upm_ne _ _ (by decide)]; exact o5
    rw [z21, if_pos rfl, ob_some, z20, ob_some, ob_some]
    refine ⟨true, _, _, rfl, rfl, (((FT.f (by decide)).tr FT.p).tr (FT.f (by decide))).tr FT.p, ((FR.p (by omega)).tr (FR.f (by omega))).tr (FR.f (by omega)), fun _ => ?_⟩
    refine ⟨m, F, by rw [upm_ne _ _ (by decide)]; exact a3', by rw [s00 (by decide), s00 (by decide), upm_ne _ _ (by decide)]; exact h2, h0, fun j hj => by rw [n00 (by decide), n00 (by decide), upm_ne _ _ (by decide)]; exact h3 j hj, fun j hj => ?_, Or.inr ⟨c, w, g + 1, 1, ?_, ?_, c0, c1, hw, w5, ?_, by rw [upm_ne _ _ (by decide)]; exact a6', ?_, by omega, ?_, ?_, by omega, by omega, ?_, ?_, fun i hi => ?_, by omega, by omega⟩⟩
    · refine Ord_keep h4 hj (fun _ _ => rfl) (fun i hi => ?_) (fun i _ => by rw [n00 (by decide), n00 (by decide), upm_ne _ _ (by decide)]) (fun i hi => ?_)
      · rw [upm_same, upd_n _ _ (by omega), n77 (by decide), upm_same, upd_n _ _ (by omega), n77 (by decide)]
      · rw [n00 (by decide), n00 (by decide), upm_same, upd_n _ _ (by omega)]
    · rw [upm_ne _ _ (by decide), s77 (by decide), upm_ne _ _ (by decide), s77 (by decide)]; exact o1
    · rw [s00 (by decide), s00 (by decide), upm_ne _ _ (by decide)]; exact o2
    · rw [upm_ne _ _ (by decide), s77 (by decide), upm_ne _ _ (by decide), s77 (by decide)]; exact o3
    · rw [s00 (by decide), e00, nar_1]
    · rw [upm_ne _ _ (by decide), e77]; rfl
    · rw [e00, s00 (by decide), upm_ne _ _ (by decide), o7]; rfl
    · rw [upm_same, upd_n _ _ (by omega), n77 (by decide), upm_same, upd_n _ _ (by omega), n77 (by decide)]; exact o8
    · rw [n00 (by decide), n00 (by decide), upm_ne _ _ (by decide)]; exact o9
    · by_cases e : i = g
      · subst e
        rw [show 6 * m + 1 + i = 6 * m + (i + 1) by omega, upm_same, upd_s, n00 (by decide), n00 (by decide), upm_same, upd_s, n77 (by decide), upm_same, upd_s, i_assoc]
        rfl
      · rw [upm_same, upd_n _ _ (by omega), n77 (by decide), upm_same, upd_n _ _ (by omega), n77 (by decide), n00 (by decide), n00 (by decide), upm_same, upd_n _ _ (by omega)]
        exact o10 i (by omega)
  · have nf0 : ¬ nI fg = 0 := by rw [neq_0 (by omega)]; exact ef0
    have hfg1 : fg = 1 := by omega
    subst hfg1
    have hg0 : 0 < g := fg0 (by decide)
    rw [if_neg nf0, if_neg nf0, ob_some, nar_1]
    have a3 : upf u 77 7 (nI (1 + 1)) 77 3 = nI m := by rw [s77 (by decide)]; exact h1
    have a6 : upf u 77 7 (nI (1 + 1)) 77 6 = nI g := by rw [s77 (by decide)]; exact o4
    rw [tcell_ok a3 a6 hm75 (by omega), ob_some, tput_ok a3 a6 hm75 (by omega), ob_some, ob_2]
    rw [h2, rd_ok (by omega) (by decide), ob_some, h3 m (Nat.le_refl _), if_neg nf0, ob_some, if_neg nf0, i_add, show (1 : Int32) = nI 1 from rfl, i_sub (by omega), rd_ok (by omega) (by decide), ob_some, ob_some, stI_ok (by omega) (by decide), ob_some]
    have z21 : ∀ x : Int32, upm v 9 (upd (v 9) (F m + g - 1) x) 0 21 = nI 1 := by intro x; rw [upm_ne _ _ (by decide)]; exact o7
    have z20 : ∀ x : Int32, upm v 9 (upd (v 9) (F m + g - 1) x) 0 20 = nI g := by intro x; rw [upm_ne _ _ (by decide)]; exact o5
    rw [z21, if_neg nf0, ob_some, z20, ob_some, ob_some]
    refine ⟨true, _, _, rfl, rfl, (FT.f (by decide)).tr FT.p, ((FR.p (by omega)).tr (FR.f (by omega))).tr (FR.f (by omega)), fun _ => ?_⟩
    refine ⟨m, F, by rw [upm_ne _ _ (by decide)]; exact a3, by rw [s00 (by decide), s00 (by decide), upm_ne _ _ (by decide)]; exact h2, h0, fun j hj => by rw [n00 (by decide), n00 (by decide), upm_ne _ _ (by decide)]; exact h3 j hj, fun j hj => ?_, Or.inr ⟨c, w, g, 2, ?_, ?_, c0, c1, hw, w5, ?_, by rw [upm_ne _ _ (by decide)]; exact a6, ?_, by omega, ?_, ?_, by omega, by omega, ?_, ?_, fun i hi => ?_, by omega, by omega⟩⟩
    · refine Ord_keep h4 hj (fun _ _ => rfl) (fun i hi => ?_) (fun i _ => by rw [n00 (by decide), n00 (by decide), upm_ne _ _ (by decide)]) (fun i hi => ?_)
      · rw [upm_same, upd_n _ _ (by omega), n77 (by decide)]
      · rw [n00 (by decide), n00 (by decide), upm_same, upd_n _ _ (by omega)]
    · rw [upm_ne _ _ (by decide), s77 (by decide)]; exact o1
    · rw [s00 (by decide), s00 (by decide), upm_ne _ _ (by decide)]; exact o2
    · rw [upm_ne _ _ (by decide), s77 (by decide)]; exact o3
    · rw [s00 (by decide), e00, show (0 : Int32) = nI 0 from rfl, i_add]; rfl
    · rw [upm_ne _ _ (by decide), e77]
    · rw [e00, s00 (by decide), upm_ne _ _ (by decide), o7]; rfl
    · rw [upm_same, upd_n _ _ (by omega), n77 (by decide)]; exact o8
    · rw [n00 (by decide), n00 (by decide), upm_ne _ _ (by decide)]; exact o9
    · by_cases e : i = g - 1
      · subst e
        rw [show 6 * m + 1 + (g - 1) = 6 * m + g by omega, upm_same, upd_s, n00 (by decide), n00 (by decide), upm_same, show F m + (g - 1) = F m + g - 1 by omega, upd_s, n77 (by decide), i_assoc]
        have := o10 (g - 1) (by omega)
        rw [show 6 * m + 1 + (g - 1) = 6 * m + g by omega, show F m + (g - 1) = F m + g - 1 by omega] at this
        rw [this]
      · rw [upm_same, upd_n _ _ (by omega), n77 (by decide), n00 (by decide), n00 (by decide), upm_same, upd_n _ _ (by omega)]
        exact o10 i (by omega)
theorem take_ok {u v : Mem} {k ch : Nat} (hch : ch < 128) (hk : k < 150) (h : PS u v k) : Tk u v k (X7_takes u (nI ch)) (X9_readByte v (nI ch)) := by
  obtain ⟨m, F, h1, h2, h0, h3, h4, h5 | ⟨c, w, g, fg, h5⟩⟩ := h
  · exact take_open hch hk h1 h2 h0 h3 h4 h5
  · exact take_in hch hk h1 h2 h0 h3 h4 h5
