/-! ===== PHASE B: does ===== -/
def TXn (u v : Mem) (n : Nat) : Prop := n ≤ 150 ∧ u 77 2 = nI n ∧ v 0 7 = nI n ∧ ∀ k, k < n → u 78 k = v 6 k ∧ ∃ c, c < 128 ∧ u 78 k = nI c
theorem TXn.keep {u v u' v' : Mem} {n : Nat} (h : TXn u v n) (h1 : FT u u') (h2 : FR v v') : TXn u' v' n := by
  obtain ⟨a, b, c, d⟩ := h
  refine ⟨a, by rw [h1.2]; exact b, by rw [h2.2 7 (by decide) (by decide) (by decide) (by decide)]; exact c, fun k hk => ?_⟩
  rw [h1.1 78 (by decide) (by decide), h2.1 6 (by decide) (by decide) (by decide) (by decide)]
  exact d k hk
def RdOK (u v : Mem) (m : Nat) : Prop := ∃ F, 1 ≤ m ∧ m ≤ 75 ∧ u 77 3 = nI m ∧ v 0 11 = nI m ∧ F 0 = 0 ∧ (∀ j, j ≤ m → v 8 j = nI (F j)) ∧ (∀ j, j < m → OrdOK u v F j) ∧ F m ≤ 150
theorem read_L {n : Nat} : ∀ (c k : Nat) (u v : Mem) (nx ny : Nat), k + c = n → c < nx → c < ny → TXn u v n → PS u v k →
    ∃ r u' v', X7_read_L17 nx (nI k) u = some (r, u') ∧ X9_readText_L19 ny (nI k) v = some (r, v') ∧ FT u u' ∧ FR v v' ∧ ((r = -1 ∧ ∃ m, RdOK u' v' m) ∨ ∃ i, i ≤ 150 ∧ r = nI i) := by
  intro c
  induction c with
  | zero =>
    intro k u v nx ny h1 h2 h3 hT hP
    obtain ⟨n150, t1, t2, -⟩ := hT
    have hkn : k = n := by omega
    subst hkn
    cases nx with
    | zero => omega
    | succ nx =>
      cases ny with
      | zero => omega
      | succ ny =>
        rw [X7_read_L17, X9_readText_L19, t1, t2, if_pos (Int32.le_refl _), if_pos (Int32.le_refl _)]
        obtain ⟨m, F, a1, a2, a0, a3, a4, ⟨o1, o2, o3, o4, o5⟩ | ⟨cc, w, g, fg, o1, o2, c0, c1, -⟩⟩ := hP
        · rw [o1, o2, if_pos rfl, if_pos rfl, a1, a2]
          by_cases e : m = 0
          · subst e
            rw [if_pos nI_0, if_pos nI_0]
            exact ⟨nI k, u, v, rfl, rfl, FT.rf, FR.rf, Or.inr ⟨k, n150, rfl⟩⟩
          · have z : ¬ nI m = 0 := by rw [neq_0 (by omega)]; exact e
            rw [if_neg z, if_neg z]
            exact ⟨-1, u, v, rfl, rfl, FT.rf, FR.rf, Or.inl ⟨rfl, m, F, by omega, by omega, a1, a2, a0, a3, a4, by omega⟩⟩
        · have z : ¬ nI cc = 0 := by rw [neq_0 (by omega)]; omega
          rw [o1, o2, if_neg (by decide), if_neg z]
          exact ⟨nI k, u, v, rfl, rfl, FT.rf, FR.rf, Or.inr ⟨k, n150, rfl⟩⟩
  | succ c ih =>
    intro k u v nx ny h1 h2 h3 hT hP
    obtain ⟨n150, t1, t2, t3⟩ := id hT
    cases nx with
    | zero => omega
    | succ nx =>
      cases ny with
      | zero => omega
      | succ ny =>
        have z : ¬ nI n ≤ nI k := by rw [c_le (by omega) (by omega)]; omega
        obtain ⟨e1, ch, hch, e2⟩ := t3 k (by omega)
        rw [X7_read_L17, X9_readText_L19, t1, t2, if_neg z, if_neg z, if_neg (by rw [nle_150 (by omega)]; omega), rd_ok (by omega) (by decide), ob_some, rd_ok (by omega) (by decide), ob_some, ← e1, e2]
        obtain ⟨b, u', v', k1, k2, k3, k4, k5⟩ := take_ok hch (show k < 150 by omega) hP
        rw [k1, k2, ob_2, ob_2]
        cases b with
        | false =>
          rw [if_pos bt_f, if_pos bt_f]
          exact ⟨nI k, u', v', rfl, rfl, k3, k4, Or.inr ⟨k, by omega, rfl⟩⟩
        | true =>
          rw [if_neg bt_t, if_neg bt_t, nar_1]
          obtain ⟨r, u2, v2, m1, m2, m3, m4, m5⟩ := ih (k + 1) u' v' nx ny (by omega) (by omega) (by omega) (hT.keep k3 k4) (k5 rfl)
          exact ⟨r, u2, v2, m1, m2, k3.tr m3, k4.tr m4, m5⟩
theorem read_ok {u v : Mem} (h : Rel u v) : ∃ r u' v', X7_read u = some (r, u') ∧ X9_readText v = some (r, v') ∧ FT u u' ∧ FR v v' ∧ ((r = -1 ∧ ∃ m, RdOK u' v' m) ∨ ∃ i, i ≤ 150 ∧ r = nI i) := by
  obtain ⟨n, hT⟩ := h.2.2.2.1
  have hT : TXn u v n := hT
  unfold X7_read X9_readText stF
  rw [ob_some, ob_some, ob_some, ob_some]
  have e0 : stI 151 (upf v 0 11 0) 8 0 0 = some (upm (upf v 0 11 0) 8 (upd (upf v 0 11 0 8) 0 0)) := stI_ok (i := 0) (by decide) (by decide)
  rw [e0, ob_some, ob_some]
  have f1 : FT u (upf (upf (upf u 77 3 0) 77 4 0) 77 7 0) := ((FT.f (by decide)).tr (FT.f (by decide))).tr (FT.f (by decide))
  have f2 : FR v (upf (upm (upf v 0 11 0) 8 (upd (upf v 0 11 0 8) 0 0)) 0 19 0) := ((FR.f (by omega)).tr (FR.p (by omega))).tr (FR.f (by omega))
  have hP : PS (upf (upf (upf u 77 3 0) 77 4 0) 77 7 0) (upf (upm (upf v 0 11 0) 8 (upd (upf v 0 11 0 8) 0 0)) 0 19 0) 0 := by
    refine ⟨0, fun _ => 0, ?_, ?_, rfl, fun j hj => ?_, fun j hj => by omega, Or.inl ⟨?_, e00, e77, by omega, Nat.le_refl 0⟩⟩
    · rw [s77 (by decide), s77 (by decide), e77]; rfl
    · rw [s00 (by decide), upm_ne _ _ (by decide), e00]; rfl
    · have : j = 0 := by omega
      subst this
      rw [n00 (by decide), upm_same, upd_s]; rfl
    · rw [s77 (by decide), e77]
  have hn := hT.1
  obtain ⟨r, u2, v2, m1, m2, m3, m4, m5⟩ := read_L n 0 _ _ fu fu (by omega) (by rw [fu_big]; omega) (by rw [fu_big]; omega) (hT.keep f1 f2) hP
  exact ⟨r, u2, v2, m1, m2, f1.tr m3, f2.tr m4, m5⟩
theorem wants_inv {c w : Nat} (hc : c < 128) (hw : w ≤ 5) (h : X9_wantsOf (nI c) = some (nI w)) : (c = 97 ∧ w = 5) ∨ (c = 100 ∧ w = 2) ∨ (c = 101 ∧ w = 3) ∨ (c = 102 ∧ w = 0) ∨ (c = 109 ∧ w = 4) ∨ (c = 112 ∧ w = 1) ∨ (c = 114 ∧ w = 3) := by
  have key : ∀ n : Nat, n ≤ 5 → some (nI n) = some (nI w) → w = n := by
    intro n hn e
    exact (i_inj (by omega) (by omega) (Option.some.inj e)).symm
  have eqc : ∀ n : Nat, n < 128 → nI c = nI n → c = n := fun n hn e => i_inj (by omega) (by omega) e
  unfold X9_wantsOf at h
  split at h
  · rename_i e; exact Or.inl ⟨eqc 97 (by decide) e, key 5 (by decide) h⟩
  split at h
  · rename_i e; exact Or.inr (Or.inl ⟨eqc 100 (by decide) e, key 2 (by decide) h⟩)
  split at h
  · rename_i e; exact Or.inr (Or.inr (Or.inl ⟨eqc 101 (by decide) e, key 3 (by decide) h⟩))
  split at h
  · rename_i e; exact Or.inr (Or.inr (Or.inr (Or.inl ⟨eqc 102 (by decide) e, key 0 (by decide) h⟩)))
  split at h
  · rename_i e; exact Or.inr (Or.inr (Or.inr (Or.inr (Or.inl ⟨eqc 109 (by decide) e, key 4 (by decide) h⟩))))
  split at h
  · rename_i e; exact Or.inr (Or.inr (Or.inr (Or.inr (Or.inr (Or.inl ⟨eqc 112 (by decide) e, key 1 (by decide) h⟩)))))
  split at h
  · rename_i e; exact Or.inr (Or.inr (Or.inr (Or.inr (Or.inr (Or.inr ⟨eqc 114 (by decide) e, key 3 (by decide) h⟩)))))
  · exact absurd (Option.some.inj h).symm (i_m1 (by omega))
theorem bd2_eta {α β : Type} (x : Option (α × β)) : (bd2 x fun a b => some (a, b)) = x := by
  cases x with
  | none => rfl
  | some p => rfl
/-- one order -/
theorem order_ok {u v : Mem} {m i : Nat} (hD : DS u v) (hR : RdOK u v m) (hi : i < m) : Act u v (X8_perform u (nI i)) (X9_doOrder v (nI i)) := by
  obtain ⟨F, m1, m75, a1, a2, a0, a3, a4, f150⟩ := hR
  obtain ⟨c, w, c128, hw, w5, b1, b2, b3, b4⟩ := a4 i hi
  have hle : F (i + 1) ≤ 150 := by
    have := F_mono a4 (m - (i + 1)) (i + 1) (by omega)
    rw [show i + 1 + (m - (i + 1)) = m by omega] at this
    omega
  have cell : ∀ (y : Int32) (j : Nat), y = nI j → j < 6 → X7_cell u (nI i) y = some (u 79 (6 * i + j)) := fun y j hy hj => tcell_ok rfl hy (by omega) hj
  have num : ∀ (y : Int32) (j : Nat), y = nI j → j < 5 → ∃ x, X9_numberOf v (nI i) y = some x ∧ (j < w → x = u 79 (6 * i + (j + 1))) := by
    intro y j hy hj
    subst hy
    unfold X9_numberOf
    rw [rd_ok (by omega) (by decide), ob_some, nar_1, rd_ok (by omega) (by decide), ob_some, a3 i (by omega), a3 (i + 1) (by omega), i_add]
    by_cases e : F (i + 1) ≤ F i + j
    · rw [if_pos (by rw [c_le (by omega) (by omega)]; exact e)]
      exact ⟨0, rfl, fun z => by omega⟩
    · rw [if_neg (by rw [c_le (by omega) (by omega)]; exact e), ob_some, i_add, rd_ok (by omega) (by decide), ob_some]
      refine ⟨_, rfl, fun z => ?_⟩
      rw [show 6 * i + (j + 1) = 6 * i + 1 + j by omega]
      exact (b4 j z).symm
  obtain ⟨x0, n0, y0⟩ := num 0 0 rfl (by decide)
  obtain ⟨x1, n1, y1⟩ := num 1 1 rfl (by decide)
  obtain ⟨x2, n2, y2⟩ := num 2 2 rfl (by decide)
  obtain ⟨x3, n3, y3⟩ := num 3 3 rfl (by decide)
  obtain ⟨x4, n4, y4⟩ := num 4 4 rfl (by decide)
  unfold X8_perform X9_doOrder
  rw [cell 1 1 rfl (by decide), ob_some, cell 2 2 rfl (by decide), ob_some, cell 3 3 rfl (by decide), ob_some, cell 4 4 rfl (by decide), ob_some, cell 0 0 rfl (by decide), ob_some, n0, ob_some, n1, ob_some, n2, ob_some, n3, ob_some, rd_ok (by omega) (by decide), ob_some, b2, Nat.add_zero, b1, cell 5 5 rfl (by decide), n4]
  simp only [bd2_eta, ob_some]
  rcases wants_inv c128 w5 hw with ⟨e1, e2⟩ | ⟨e1, e2⟩ | ⟨e1, e2⟩ | ⟨e1, e2⟩ | ⟨e1, e2⟩ | ⟨e1, e2⟩ | ⟨e1, e2⟩ <;> subst e1 <;> subst e2
  · have t : nI 97 = 97 := rfl
    rw [if_pos t, if_pos t, y0 (by decide), y1 (by decide), y2 (by decide), y3 (by decide), y4 (by decide)]
    exact act_add hD _ _ _ _ _
  · have t1 : ¬ nI 100 = 97 := by decide
    have t : nI 100 = 100 := rfl
    rw [if_neg t1, if_pos t, if_neg t1, if_pos t, y0 (by decide), y1 (by decide)]
    exact act_delete hD _ _
  · have t1 : ¬ nI 101 = 97 := by decide
    have t2 : ¬ nI 101 = 100 := by decide
    have t : nI 101 = 101 := rfl
    rw [if_neg t1, if_neg t2, if_pos t, if_neg t1, if_neg t2, if_pos t, y0 (by decide), y1 (by decide), y2 (by decide)]
    exact act_put hD _ _ _ (w := 3) (Or.inr rfl) rfl rfl
  · have t1 : ¬ nI 102 = 97 := by decide
    have t2 : ¬ nI 102 = 100 := by decide
    have t3 : ¬ nI 102 = 101 := by decide
    have t : nI 102 = 102 := rfl
    rw [if_neg t1, if_neg t2, if_neg t3, if_pos t, if_neg t1, if_neg t2, if_neg t3, if_pos t]
    exact act_fork hD
  · have t1 : ¬ nI 109 = 97 := by decide
    have t2 : ¬ nI 109 = 100 := by decide
    have t3 : ¬ nI 109 = 101 := by decide
    have t4 : ¬ nI 109 = 102 := by decide
    have t : nI 109 = 109 := rfl
    rw [if_neg t1, if_neg t2, if_neg t3, if_neg t4, if_pos t, if_neg t1, if_neg t2, if_neg t3, if_neg t4, if_pos t, y0 (by decide), y1 (by decide), y2 (by decide), y3 (by decide)]
    exact act_move hD _ _ _ _
  · have t1 : ¬ nI 112 = 97 := by decide
    have t2 : ¬ nI 112 = 100 := by decide
    have t3 : ¬ nI 112 = 101 := by decide
    have t4 : ¬ nI 112 = 102 := by decide
    have t5 : ¬ nI 112 = 109 := by decide
    have t6 : ¬ nI 112 = 114 := by decide
    rw [if_neg t1, if_neg t2, if_neg t3, if_neg t4, if_neg t5, if_neg t6, if_neg t1, if_neg t2, if_neg t3, if_neg t4, if_neg t5, if_neg t6, y0 (by decide)]
    exact act_prefer hD _
  · have t1 : ¬ nI 114 = 97 := by decide
    have t2 : ¬ nI 114 = 100 := by decide
    have t3 : ¬ nI 114 = 101 := by decide
    have t4 : ¬ nI 114 = 102 := by decide
    have t5 : ¬ nI 114 = 109 := by decide
    have t : nI 114 = 114 := rfl
    rw [if_neg t1, if_neg t2, if_neg t3, if_neg t4, if_neg t5, if_pos t, if_neg t1, if_neg t2, if_neg t3, if_neg t4, if_neg t5, if_pos t, y0 (by decide), y1 (by decide), y2 (by decide)]
    exact act_put hD _ _ _ (w := 2) (Or.inl rfl) rfl rfl
theorem RdOK.keep {u v u' v' : Mem} {m : Nat} (h : RdOK u v m) (h1 : u' 77 = u 77) (h2 : u' 79 = u 79) (h3 : v' 0 11 = v 0 11) (h7 : v' 7 = v 7) (h8 : v' 8 = v 8) (h9 : v' 9 = v 9) : RdOK u' v' m := by
  obtain ⟨F, a⟩ := h
  refine ⟨F, ?_⟩
  unfold OrdOK
  rw [h1, h2, h3, h7, h8, h9]
  exact a
theorem does_L {U V u2 v2 : Mem} {m : Nat} (hRel : Rel U V) (hu2 : ∀ i, i ≠ 28 → i ≠ 29 → i ≠ 30 → i ≠ 51 → i ≠ 77 → i ≠ 79 → u2 i = U i) (hcp : (∀ o, o < 3 → E80 (U (25 + o)) (u2 (28 + o))) ∧ u2 51 3 = U 50 3 ∧ u2 51 4 = U 50 4)
    (hb : DR u2 1 (v2 3) 0) (hbv : DV u2 1) (hH : HS u2 v2) (hC : CN u2 v2) (hT : TX u2 v2) (hR : RdOK u2 v2 m) :
    ∀ (c i : Nat) (u v : Mem) (nx ny : Nat), i + c = m → c < nx → c < ny → DS u v → FX u2 u → FY v2 v → St (X8_does_L31 nx (nI i) u) (X9_does_L33 ny (nI i) v) := by
  have hm75 : 1 ≤ m ∧ m ≤ 75 := by
    obtain ⟨F, a, b, -⟩ := hR
    exact ⟨a, b⟩
  intro c
  induction c with
  | zero =>
    intro i u v nx ny h1 h2 h3 hD hFX hFY
    have g : ∀ i, i ≠ 25 → i ≠ 26 → i ≠ 27 → i ≠ 50 → u i = u2 i := hFX
    have e77' : u 77 3 = nI m := by
      rw [g 77 (by decide) (by decide) (by decide) (by decide)]
      obtain ⟨F, -, -, a, -⟩ := hR
      exact a
    have e11 : v 0 11 = nI m := by
      rw [hFY 0 (by decide)]
      obtain ⟨F, -, -, -, a, -⟩ := hR
      exact a
    have him : i = m := by omega
    subst him
    cases nx with
    | zero => omega
    | succ nx =>
      cases ny with
      | zero => omega
      | succ ny =>
        rw [X8_does_L31, X9_does_L33, e77', e11, if_pos (Int32.le_refl _), if_pos (Int32.le_refl _)]
        have b1 : X9_bring v 3 0 2 0 258 = some (upm v 2 (brG (v 3) (v 2) 0 0 258)) := bring_ok (i := 0) (j := 0) (m := 258) rfl rfl rfl (by decide) (by decide) (by decide) (by decide) (by omega)
        rw [b1, ob_some, upm_ne _ _ (by decide), e11]
        have hv : ∀ j, j ≠ 2 → upm v 2 (brG (v 3) (v 2) 0 0 258) j = v j := fun j hj => upm_ne _ _ hj
        have q1 : DS u (upm v 2 (brG (v 3) (v 2) 0 0 258)) := hD.same rfl rfl rfl rfl (hv 1 (by decide))
        have q2 : HS u (upm v 2 (brG (v 3) (v 2) 0 0 258)) := hH.same (fun j hj => g j (by omega) (by omega) (by omega) (by omega)) (by rw [hv 0 (by decide), hFY 0 (by decide)]) (by rw [hv 4 (by decide), hFY 4 (by decide)])
        have q3 : CN u (upm v 2 (brG (v 3) (v 2) 0 0 258)) := by
          unfold CN
          rw [g 58 (by decide) (by decide) (by decide) (by decide), hv 5 (by decide), hFY 5 (by decide)]
          exact hC
        have q4 : TX u (upm v 2 (brG (v 3) (v 2) 0 0 258)) := by
          unfold TX
          rw [g 77 (by decide) (by decide) (by decide) (by decide), g 78 (by decide) (by decide) (by decide) (by decide), hv 0 (by decide), hFY 0 (by decide), hv 6 (by decide), hFY 6 (by decide)]
          exact hT
        have q5 : DR u 1 (upm v 2 (brG (v 3) (v 2) 0 0 258) 2) 0 := by
          rw [upm_same, hFY 3 (by decide)]
          exact (hb.same (u' := u) (fun o ho => g _ (by omega) (by omega) (by omega) (by omega)) (g _ (by omega) (by omega) (by omega) (by omega))).keep (fun j hj => by unfold brG; rw [if_pos (by omega)]; simp)
        have q6 : DV u 1 := hbv.same (fun o ho => g _ (by omega) (by omega) (by omega) (by omega)) (g _ (by omega) (by omega) (by omega) (by omega))
        obtain ⟨u', v', k1, k2, k3⟩ := settle_ok (k := i) (by omega) q1 q2 q3 q4 q5 q6
        exact ⟨nI i, u', v', by rw [k1]; rfl, by rw [k2]; rfl, k3⟩
  | succ c ih =>
    intro i u v nx ny h1 h2 h3 hD hFX hFY
    have g : ∀ i, i ≠ 25 → i ≠ 26 → i ≠ 27 → i ≠ 50 → u i = u2 i := hFX
    have hR' : RdOK u v m := hR.keep (g 77 (by decide) (by decide) (by decide) (by decide)) (g 79 (by decide) (by decide) (by decide) (by decide)) (by rw [hFY 0 (by decide)]) (hFY 7 (by decide)) (hFY 8 (by decide)) (hFY 9 (by decide))
    have e77' : u 77 3 = nI m := by
      obtain ⟨F, -, -, a, -⟩ := hR'
      exact a
    have e11 : v 0 11 = nI m := by
      obtain ⟨F, -, -, -, a, -⟩ := hR'
      exact a
    cases nx with
    | zero => omega
    | succ nx =>
      cases ny with
      | zero => omega
      | succ ny =>
        have z : ¬ nI m ≤ nI i := by rw [c_le (by omega) (by omega)]; omega
        rw [X8_does_L31, X9_does_L33, e77', e11, if_neg z, if_neg z, if_neg (by rw [nle_75 (by omega)]; omega)]
        obtain ⟨r, u3, v3, k1, k2, k3⟩ := order_ok hD hR' (show i < m by omega)
        rw [k1, k2, ob_2, ob_2]
        rcases k3 with ⟨hr, e1, e2⟩ | ⟨⟨n, hn, e⟩, hDS, hFX3, hFY3⟩
        · subst e1; subst e2
          have r1 : ¬ (0 : Int32) ≤ r := by rcases hr with e | e | e <;> subst e <;> decide
          have r2 : X9_isRefused r = some true := by rcases hr with e | e | e <;> subst e <;> decide
          rw [if_neg r1, r2, ob_some, if_neg bt_t]
          obtain ⟨u4, c1, c2⟩ := copy_ok u3 (d := 0) (e := 1) (by decide) (by decide) (by decide)
          have b1 : X9_bring v3 3 0 1 0 258 = some (upm v3 1 (brG (v3 3) (v3 1) 0 0 258)) := bring_ok (i := 0) (j := 0) (m := 258) rfl rfl rfl (by decide) (by decide) (by decide) (by decide) (by omega)
          rw [c1, ob_some, b1, ob_some]
          have w : ∀ j, j ≠ 25 → j ≠ 26 → j ≠ 27 → j ≠ 50 → u4 j = u2 j := fun j x1 x2 x3 x4 => by rw [c2.2.2.2 j x1 x2 x3 x4, g j x1 x2 x3 x4]
          have wv : ∀ j, j ≠ 1 → upm v3 1 (brG (v3 3) (v3 1) 0 0 258) j = v2 j := fun j hj => by rw [upm_ne _ _ hj, hFY j hj]
          have p1 : DR u3 1 (v2 3) 0 := hb.same (fun o ho => g _ (by omega) (by omega) (by omega) (by omega)) (g _ (by omega) (by omega) (by omega) (by omega))
          have p2 : DV u3 1 := hbv.same (fun o ho => g _ (by omega) (by omega) (by omega) (by omega)) (g _ (by omega) (by omega) (by omega) (by omega))
          refine ⟨_, _, _, rfl, rfl, ⟨?_, c2.dv p2⟩, ?_, ?_, ?_, ?_⟩
          · refine (c2.dr p1).keep (fun j hj => ?_)
            rw [upm_same, hFY 3 (by decide)]
            unfold brG
            rw [if_pos (by omega)]
            simp
          · exact hH.same (fun j hj => w j (by omega) (by omega) (by omega) (by omega)) (by rw [wv 0 (by decide)]) (wv 4 (by decide))
          · unfold CN
            rw [w 58 (by decide) (by decide) (by decide) (by decide), wv 5 (by decide)]
            exact hC
          · unfold TX
            rw [w 77 (by decide) (by decide) (by decide) (by decide), w 78 (by decide) (by decide) (by decide) (by decide), wv 0 (by decide), wv 6 (by decide)]
            exact hT
          · have wU : ∀ j, j ≠ 25 → j ≠ 26 → j ≠ 27 → j ≠ 50 → j ≠ 28 → j ≠ 29 → j ≠ 30 → j ≠ 51 → j ≠ 77 → j ≠ 79 → u4 j = U j := fun j a1 a2 a3 a4 b1 b2 b3 b4 b5 b6 => by rw [w j a1 a2 a3 a4, hu2 j b1 b2 b3 b4 b5 b6]
            have rows : ∀ o, o < 3 → E80 (U (25 + o)) (u4 (25 + o)) := by
              intro o ho k hk
              have x1 := c2.1 o ho k hk
              rw [show 25 + (3 * 0 + o) = 25 + o by omega, show 25 + (3 * 1 + o) = 28 + o by omega, g _ (by omega) (by omega) (by omega) (by omega)] at x1
              rw [x1]
              exact hcp.1 o ho k hk
            have d3 : u4 50 3 = U 50 3 := by
              have x1 := c2.2.1
              rw [show (50 : Nat) + 0 = 50 from rfl, show (50 : Nat) + 1 = 51 from rfl, g 51 (by decide) (by decide) (by decide) (by decide)] at x1
              rw [x1]; exact hcp.2.1
            have d4 : u4 50 4 = U 50 4 := by
              have x1 := c2.2.2.1
              rw [show (50 : Nat) + 0 = 50 from rfl, show (50 : Nat) + 1 = 51 from rfl, g 51 (by decide) (by decide) (by decide) (by decide)] at x1
              rw [x1]; exact hcp.2.2
            have same : ∀ j, j = 49 ∨ j = 61 ∨ (64 ≤ j ∧ j < 68) → u4 j = U j := fun j hj => wU j (by omega) (by omega) (by omega) (by omega) (by omega) (by omega) (by omega) (by omega) (by omega) (by omega)
            rcases hRel.2.2.2.2 with y | ⟨y0, v0, v1, y1, y2, y3, y4, y5, y6, y7, y8, y9, y10, y11, y12⟩
            · left
              rw [same 61 (by omega)]
              exact y
            · right
              refine ⟨by rw [same 61 (by omega)]; exact y0, v0, v1, fun k hk => by rw [rows 0 (by decide) k hk]; exact y1 k hk, fun k hk => by rw [rows 1 (by decide) k hk]; exact y2 k hk, fun k hk => by rw [rows 2 (by decide) k hk]; exact y3 k hk, by rw [d3]; exact y4, by rw [d4]; exact y5, y6, y7, by rw [same 49 (by omega)]; exact y8, by rw [same 64 (by omega)]; exact y9, by rw [same 65 (by omega)]; exact y10, by rw [same 66 (by omega)]; exact y11, by rw [same 67 (by omega)]; exact y12⟩
        · subst e
          rw [if_pos (Int32.not_lt.mp (i_nn (by omega))), notRefused hn, ob_some, if_pos bt_f, nar_1]
          exact ih (i + 1) u3 v3 nx ny (by omega) (by omega) (by omega) hDS (fun j a b c d => by rw [hFX3 j a b c d, g j a b c d]) (fun j a => by rw [hFY3 j a, hFY j a])
theorem st_does {u v : Mem} (h : Rel u v) : St (X8_does u) (X9_does v) := by
  unfold X8_does X9_does
  obtain ⟨r, u1, v1, m1, m2, m3, m4, m5⟩ := read_ok h
  rw [m1, m2, ob_2, ob_2]
  have hR1 : Rel u1 v1 := h.frame (fun i hi => m3.1 i (by omega) (by omega)) (by rw [m3.1 61 (by decide) (by decide)]) m3.2 (fun i _ => by rw [m4.1 1 (by decide) (by decide) (by decide) (by decide)]) (fun i hi => m4.1 i (by omega) (by omega) (by omega) (by omega)) (m4.2 4 (by decide) (by decide) (by decide) (by decide)) (m4.2 7 (by decide) (by decide) (by decide) (by decide))
  rcases m5 with ⟨e, m, hR⟩ | ⟨i, hi, e⟩
  · subst e
    rw [if_pos rfl, if_pos rfl]
    obtain ⟨u2, k1, k2⟩ := copy_ok u1 (d := 1) (e := 0) (by decide) (by decide) (by decide)
    have b1 : X9_bring v1 1 0 3 0 258 = some (upm v1 3 (brG (v1 1) (v1 3) 0 0 258)) := bring_ok (i := 0) (j := 0) (m := 258) rfl rfl rfl (by decide) (by decide) (by decide) (by decide) (by omega)
    rw [k1, ob_some, b1, ob_some]
    have g : ∀ i, i ≠ 28 → i ≠ 29 → i ≠ 30 → i ≠ 51 → u2 i = u1 i := fun i a b c d => k2.2.2.2 i a b c d
    have gv : ∀ i, i ≠ 3 → upm v1 3 (brG (v1 1) (v1 3) 0 0 258) i = v1 i := fun i hi => upm_ne _ _ hi
    have hm := hR
    obtain ⟨F, n1, n75, -⟩ := hm
    refine does_L (U := u1) (V := v1) (u2 := u2) (v2 := upm v1 3 (brG (v1 1) (v1 3) 0 0 258)) (m := m) hR1 (fun i a b c d _ _ => g i a b c d) ⟨fun o ho => ?_, ?_, ?_⟩ ?_ (k2.dv hR1.1.2) ?_ ?_ ?_ ?_ m 0 u2 _ fu fu (by omega) (by rw [fu_big]; omega) (by rw [fu_big]; omega) ?_ (fun _ _ _ _ _ => rfl) (fun _ _ => rfl)
    · have := k2.1 o ho
      rw [show 25 + (3 * 0 + o) = 25 + o by omega, show 25 + (3 * 1 + o) = 28 + o by omega] at this
      exact this
    · exact k2.2.1
    · exact k2.2.2.1
    · rw [upm_same]
      exact (k2.dr hR1.1.1).keep (fun i hi => by unfold brG; rw [if_pos (by omega)]; simp)
    · exact hR1.2.1.same (fun i hi => g i (by omega) (by omega) (by omega) (by omega)) (by rw [gv 0 (by decide)]) (gv 4 (by decide))
    · unfold CN
      rw [g 58 (by decide) (by decide) (by decide) (by decide), gv 5 (by decide)]
      exact hR1.2.2.1
    · unfold TX
      rw [g 77 (by decide) (by decide) (by decide) (by decide), g 78 (by decide) (by decide) (by decide) (by decide), gv 0 (by decide), gv 6 (by decide)]
      exact hR1.2.2.2.1
    · exact hR.keep (g 77 (by decide) (by decide) (by decide) (by decide)) (g 79 (by decide) (by decide) (by decide) (by decide)) (by rw [gv 0 (by decide)]) (gv 7 (by decide)) (gv 8 (by decide)) (gv 9 (by decide))
    · exact hR1.1.same (g 25 (by decide) (by decide) (by decide) (by decide)) (g 26 (by decide) (by decide) (by decide) (by decide)) (g 27 (by decide) (by decide) (by decide) (by decide)) (g 50 (by decide) (by decide) (by decide) (by decide)) (gv 1 (by decide))
  · subst e
    rw [if_neg (i_m1 (by omega)), if_neg (i_m1 (by omega))]
    exact ⟨_, u1, v1, rfl, rfl, hR1⟩
