/-! ===== PHASE B: the calls, first the acts ===== -/
/-- both sides answer, alike, and stay related -/
def St (cx cy : Option (Int32 × Mem)) : Prop := ∃ r u' v', cx = some (r, u') ∧ cy = some (r, v') ∧ Rel u' v'
theorem DS.keepv {u v v' : Mem} (h : DS u v) (hv : ∀ i, i < 192 ∨ 256 ≤ i → v' 1 i = v 1 i) : DS u v' := by
  obtain ⟨n, a, b, c, d, e⟩ := h.fr
  refine DS.mk (fun o ho => rr_keep (h.rr ho) (fun i h1 h2 => hv i (by omega))) (fun o ho => h.val ho) ?_ ?_ h.2.2.1 ⟨n, a, b, c, e⟩
  · rw [hv 256 (by omega)]; exact h.1.2.1
  · rw [hv 257 (by omega)]; exact h.1.2.2
/-- cells that the relation speaks of are as they were -/
theorem Rel.frame {u v u' v' : Mem} (h : Rel u v) (hu : ∀ i, (i = 25 ∨ i = 26 ∨ i = 27 ∨ (31 ≤ i ∧ i < 46) ∨ i = 49 ∨ i = 50 ∨ (52 ≤ i ∧ i < 57) ∨ i = 58 ∨ i = 59 ∨ (64 ≤ i ∧ i < 68) ∨ i = 78) → u' i = u i) (h61 : u' 61 5 = u 61 5) (h77 : u' 77 2 = u 77 2)
    (hv1 : ∀ i, i < 192 ∨ 256 ≤ i → v' 1 i = v 1 i) (hv : ∀ i, (i = 4 ∨ i = 5 ∨ i = 6) → v' i = v i) (h04 : v' 0 4 = v 0 4) (h07 : v' 0 7 = v 0 7) : Rel u' v' := by
  obtain ⟨hD, hH, hC, hT, hM⟩ := h
  refine ⟨?_, ?_, ?_, ?_, ?_⟩
  · have := hD.keepv (v' := v') hv1
    exact this.same (hu _ (by omega)) (hu _ (by omega)) (hu _ (by omega)) (hu _ (by omega)) rfl
  · exact hH.same (fun i hi => hu i (by omega)) h04 (hv 4 (by omega))
  · unfold CN
    rw [hu 58 (by omega), hv 5 (by omega)]
    exact hC
  · unfold TX
    rw [h77, hu 78 (by omega), h07, hv 6 (by omega)]
    exact hT
  · exact hM.same h61 (hu _ (by omega)) (hu _ (by omega)) (hu _ (by omega)) (hu _ (by omega)) (hu _ (by omega)) (hu _ (by omega)) (hu _ (by omega)) (hu _ (by omega)) (hu _ (by omega))
theorem save_ok (v : Mem) : X9_save v = some (upm v 2 (brG (v 1) (v 2) 0 0 258)) := by
  unfold X9_save
  have b1 : X9_bring v 1 0 2 0 258 = some (upm v 2 (brG (v 1) (v 2) 0 0 258)) := bring_ok (i := 0) (j := 0) (m := 258) rfl rfl rfl (by decide) (by decide) (by decide) (by decide) (by omega)
  rw [b1, ob_some]
theorem st_bad {u v : Mem} (h : Rel u v) {r : Int32} (hr : r = -2 ∨ r = -3 ∨ r = -4) : St (bd2 (X8_refuse u r) fun a b => some (a, b)) (bd2 (X9_refuse v r) fun a b => some (a, b)) := by
  obtain ⟨u', v', h1, h2, h3⟩ := CN.refuse h hr
  exact ⟨r, u', v', by rw [h1]; rfl, by rw [h2]; rfl, h3⟩
/-- a refusal, at the end of an act -/
theorem refused_end {u v : Mem} (h : Rel u v) {r : Int32} (hr : r = -2 ∨ r = -3 ∨ r = -4) : ∃ u' v', X8_settled u r = some (r, u') ∧ X9_finish v r = some (r, v') ∧ Rel u' v' := by
  obtain ⟨u', v', h1, h2, h3⟩ := CN.refuse h hr
  refine ⟨u', v', ?_, ?_, h3⟩
  · unfold X8_settled
    rw [if_neg (by rcases hr with e | e | e <;> subst e <;> decide), h1]
    rfl
  · unfold X9_finish
    have : X9_isRefused r = some true := by rcases hr with e | e | e <;> subst e <;> decide
    rw [this, ob_some, if_neg bt_t, h2]
    rfl
theorem act_step {u v : Mem} (h : Rel u v) (cx cy : Mem → Option (Int32 × Mem)) (hact : ∀ u1 v1, DS u1 v1 → Act u1 v1 (cx u1) (cy v1)) :
    St ((X0_copyFrom u 1 0).bind fun m1 => bd2 (cx m1) fun r2 m3 => bd2 (X8_settled m3 r2) fun r4 m5 => some (r4, m5)) ((X9_save v).bind fun m1 => bd2 (cy m1) fun r2 m3 => bd2 (X9_finish m3 r2) fun r4 m5 => some (r4, m5)) := by
  obtain ⟨u1, k1, k2⟩ := copy_ok u (d := 1) (e := 0) (by decide) (by decide) (by decide)
  have fu1 : ∀ i, i ≠ 28 → i ≠ 29 → i ≠ 30 → i ≠ 51 → u1 i = u i := fun i a b c d => k2.2.2.2 i a b c d
  have fv1 : ∀ i, i ≠ 2 → upm v 2 (brG (v 1) (v 2) 0 0 258) i = v i := fun i hi => upm_ne _ _ hi
  have hR1 : Rel u1 (upm v 2 (brG (v 1) (v 2) 0 0 258)) := h.frame (fun i hi => fu1 i (by omega) (by omega) (by omega) (by omega)) (by rw [fu1 61 (by decide) (by decide) (by decide) (by decide)]) (by rw [fu1 77 (by decide) (by decide) (by decide) (by decide)]) (fun i _ => by rw [fv1 1 (by decide)]) (fun i hi => fv1 i (by omega)) (by rw [fv1 0 (by decide)]) (by rw [fv1 0 (by decide)])
  have hb : DR u1 1 (upm v 2 (brG (v 1) (v 2) 0 0 258) 2) 0 := by
    rw [upm_same]
    exact (k2.dr h.1.1).keep (fun i hi => by unfold brG; rw [if_pos (by omega)]; simp)
  have hbv : DV u1 1 := k2.dv h.1.2
  rw [k1, ob_some, save_ok, ob_some]
  obtain ⟨r, u3, v3, a1, a2, a3⟩ := hact u1 _ hR1.1
  rw [a1, a2, ob_2, ob_2]
  rcases a3 with ⟨hr, e1, e2⟩ | ⟨⟨n, hn, e⟩, hDS, hFX, hFY⟩
  · subst e1; subst e2
    obtain ⟨u', v', b1, b2, b3⟩ := refused_end hR1 hr
    exact ⟨r, u', v', by rw [b1]; rfl, by rw [b2]; rfl, b3⟩
  · subst e
    have g : ∀ i, i ≠ 25 → i ≠ 26 → i ≠ 27 → i ≠ 50 → u3 i = u1 i := hFX
    have hH := hR1.2.1.same (u' := u3) (v' := v3) (fun i hi => g i (by omega) (by omega) (by omega) (by omega)) (by rw [hFY 0 (by decide)]) (hFY 4 (by decide))
    have hC : CN u3 v3 := by
      unfold CN
      rw [g 58 (by decide) (by decide) (by decide) (by decide), hFY 5 (by decide)]
      exact hR1.2.2.1
    have hT : TX u3 v3 := by
      unfold TX
      rw [g 77 (by decide) (by decide) (by decide) (by decide), g 78 (by decide) (by decide) (by decide) (by decide), hFY 0 (by decide), hFY 6 (by decide)]
      exact hR1.2.2.2.1
    have hb3 : DR u3 1 (v3 2) 0 := by
      rw [hFY 2 (by decide)]
      exact hb.same (fun o ho => g _ (by omega) (by omega) (by omega) (by omega)) (g _ (by omega) (by omega) (by omega) (by omega))
    have hbv3 : DV u3 1 := hbv.same (fun o ho => g _ (by omega) (by omega) (by omega) (by omega)) (g _ (by omega) (by omega) (by omega) (by omega))
    obtain ⟨u', v', b1, b2, b3⟩ := settle_ok hn hDS hH hC hT hb3 hbv3
    exact ⟨nI n, u', v', by rw [b1]; rfl, by rw [b2]; rfl, b3⟩
theorem st_adds {u v : Mem} (h : Rel u v) (a b c d e : Int32) : St (X8_adds u a b c d e) (X9_adds v a b c d e) := act_step h (fun m => X0_add m 0 a b c d e) (fun m => X9_add m a b c d e) (fun _ _ hD => act_add hD a b c d e)
theorem st_moves {u v : Mem} (h : Rel u v) (a b c d : Int32) : St (X8_moves u a b c d) (X9_moves v a b c d) := act_step h (fun m => X0_move m 0 a b c d) (fun m => X9_move m a b c d) (fun _ _ hD => act_move hD a b c d)
theorem st_renames {u v : Mem} (h : Rel u v) (a b c : Int32) : St (X8_renames u a b c) (X9_renames v a b c) := act_step h (fun m => X0_retell m 0 a b 2 c) (fun m => X9_put m a b 32 c) (fun _ _ hD => act_put hD a b c (w := 2) (Or.inl rfl) rfl rfl)
theorem st_edits {u v : Mem} (h : Rel u v) (a b c : Int32) : St (X8_edits u a b c) (X9_edits v a b c) := act_step h (fun m => X0_retell m 0 a b 3 c) (fun m => X9_put m a b 48 c) (fun _ _ hD => act_put hD a b c (w := 3) (Or.inr rfl) rfl rfl)
theorem st_deletes {u v : Mem} (h : Rel u v) (a b : Int32) : St (X8_deletes u a b) (X9_deletes v a b) := act_step h (fun m => X0_delete m 0 a b) (fun m => X9_delete m a b) (fun _ _ hD => act_delete hD a b)
theorem st_forks {u v : Mem} (h : Rel u v) : St (X8_forks u) (X9_forks v) := act_step h (fun m => X0_fork m 0) (fun m => X9_fork m) (fun _ _ hD => act_fork hD)
theorem st_prefers {u v : Mem} (h : Rel u v) (a : Int32) : St (X8_prefers u a) (X9_prefers v a) := act_step h (fun m => X0_prefer m 0 a) (fun m => X9_prefer m a) (fun _ _ hD => act_prefer hD a)
/-! a state back -/
theorem st_back {u v : Mem} (h : Rel u v) : St (X8_back u) (X9_back v) := by
  obtain ⟨n, q, n5, q5, c1, c2, c3, c4⟩ := h.2.1
  unfold X8_back X9_back
  rw [c1, c2]
  by_cases h0 : n = 0
  · subst h0
    rw [if_pos nI_0, if_pos nI_0]
    exact st_bad h (Or.inr (Or.inl rfl))
  have z0 : ¬ nI n = 0 := by rw [neq_0 (by omega)]; exact h0
  rw [if_neg z0, if_neg z0]
  -- the class
  have hq1 : ∃ q1, q1 < 5 ∧ q1 = (q + 4) % 5 ∧ ((if nI q ≤ 0 then some (4 : Int32) else some (nI q - 1)).bind fun x1 => some x1) = some (nI q1) := by
    refine ⟨(q + 4) % 5, Nat.mod_lt _ (by decide), rfl, ?_⟩
    by_cases e : q = 0
    · subst e; rfl
    · rw [if_neg (by rw [nel_0 (by omega)]; omega), ob_some, show (1 : Int32) = nI 1 from rfl, i_sub (by omega), show (q + 4) % 5 = q - 1 by omega]
  obtain ⟨q1, q15, q1e, hq1⟩ := hq1
  have hsl : slotN q n (n - 1) = q1 := by unfold slotN; omega
  obtain ⟨g1, g2⟩ := c4 (n - 1) (by omega)
  rw [hsl] at g1 g2
  have e59 : ∀ (w : Mem) (x y : Int32), upf (upf w 59 1 x) 59 2 y 59 1 = x ∧ upf (upf w 59 1 x) 59 2 y 59 2 = y ∧ ∀ i, i ≠ 59 → upf (upf w 59 1 x) 59 2 y i = w i := by
    intro w x y
    unfold upf
    refine ⟨?_, ?_, fun i hi => ?_⟩
    · rw [upm_same, upd_n _ _ (by decide), upm_same, upd_s]
    · rw [upm_same, upd_s]
    · rw [upm_ne _ _ hi, upm_ne _ _ hi]
  have e592 : ∀ (w : Mem) (x : Int32), upf w 59 1 x 59 2 = w 59 2 := by intro w x; unfold upf; rw [upm_same, upd_n _ _ (by decide)]
  obtain ⟨m1, m2, m3⟩ := e59 u (nI q1) (nI (n - 1))
  obtain ⟨u2, k1, k2⟩ := copy_ok (upf (upf u 59 1 (nI q1)) 59 2 (nI (n - 1))) (d := 0) (e := 2 + q1) (by decide) (by omega) (by omega)
  have hslot : ∀ w : Mem, X1_slot w (nI q1) = some (some (2 + q1)) := by
    intro w
    unfold X1_slot ldA
    rw [if_neg (i_nn (by omega)), if_neg (by rw [nle_5 (by omega)]; omega), i_tn (by omega), if_neg]
    · rfl
    · intro z
      rcases z with z | z
      · exact i_nn (by omega) z
      · omega
  have htb : X1_takeBack u 0 = some u2 := by
    unfold X1_takeBack stF
    rw [c1, if_neg z0, c3]
    have lift : ∀ (A : Option Int32) (F : Int32 → Option Mem), (A.bind fun x => some x) = some (nI q1) → A.bind F = F (nI q1) := by
      intro A F hA
      cases A with
      | none => cases hA
      | some x => cases hA; rfl
    rw [lift _ _ hq1]
    simp only [ob_some]
    rw [e592, c1, show (1 : Int32) = nI 1 from rfl, i_sub (by omega), m1, hslot, ob_some]
    dsimp only
    rw [k1]
    rfl
  rw [htb, ob_some]
  unfold stF
  rw [ob_some, ob_some]
  -- the reference
  have v0 : upf v 0 4 (nI n - 1) 0 4 = nI (n - 1) := by
    unfold upf
    rw [upm_same, upd_s, show (1 : Int32) = nI 1 from rfl, i_sub (by omega)]
  have b1 : X9_bring (upf v 0 4 (nI n - 1)) 4 (258 * nI (n - 1)) 1 0 258 = some (upm (upf v 0 4 (nI n - 1)) 1 (brG (upf v 0 4 (nI n - 1) 4) (upf v 0 4 (nI n - 1) 1) (258 * (n - 1)) 0 258)) := bring_ok (i := 258 * (n - 1)) (j := 0) (m := 258) (nml_258 (n - 1)) rfl rfl (by show 258 * (n - 1) + 258 ≤ 1290; omega) (by decide) (by decide) (by decide) (by omega)
  rw [v0, b1, ob_some]
  have hu : ∀ i, i ≠ 25 → i ≠ 26 → i ≠ 27 → i ≠ 50 → i ≠ 59 → u2 i = u i := by
    intro i a b c d e
    rw [k2.2.2.2 i a b c d, m3 i e]
  have hu59 : u2 59 = upf (upf u 59 1 (nI q1)) 59 2 (nI (n - 1)) 59 := k2.2.2.2 59 (by decide) (by decide) (by decide) (by decide)
  have hvr : ∀ i, i ≠ 0 → upf v 0 4 (nI n - 1) i = v i := fun i hi => by unfold upf; rw [upm_ne _ _ hi]
  have hv : ∀ i, i ≠ 1 → i ≠ 0 → upm (upf v 0 4 (nI n - 1)) 1 (brG (upf v 0 4 (nI n - 1) 4) (upf v 0 4 (nI n - 1) 1) (258 * (n - 1)) 0 258) i = v i := fun i h1 h0 => by rw [upm_ne _ _ h1, hvr i h0]
  have hv0 : ∀ i, i ≠ 4 → upm (upf v 0 4 (nI n - 1)) 1 (brG (upf v 0 4 (nI n - 1) 4) (upf v 0 4 (nI n - 1) 1) (258 * (n - 1)) 0 258) 0 i = v 0 i := by
    intro i hi
    rw [upm_ne _ _ (by decide)]
    unfold upf
    rw [upm_same, upd_n _ _ hi]
  have w : ∀ i, i ≠ 61 → upf u2 61 5 1 i = u2 i := fun i hi => by unfold upf; rw [upm_ne _ _ hi]
  have ans1 : upf u2 61 5 1 59 2 = nI (n - 1) := by rw [w 59 (by decide), hu59]; exact m2
  have ans2 : upm (upf v 0 4 (nI n - 1)) 1 (brG (upf v 0 4 (nI n - 1) 4) (upf v 0 4 (nI n - 1) 1) (258 * (n - 1)) 0 258) 0 4 = nI (n - 1) := by rw [upm_ne _ _ (by decide)]; exact v0
  rw [ans1, ans2]
  refine ⟨nI (n - 1), _, _, rfl, rfl, ?_, ?_, ?_, ?_, ?_⟩
  · -- the outlines
    have a1 : DR (upf (upf u 59 1 (nI q1)) 59 2 (nI (n - 1))) (2 + q1) (v 4) (258 * (n - 1)) := g1.same (fun o ho => m3 _ (by omega)) (m3 _ (by omega))
    have a2 : DV (upf (upf u 59 1 (nI q1)) 59 2 (nI (n - 1))) (2 + q1) := g2.same (fun o ho => m3 _ (by omega)) (m3 _ (by omega))
    have a3 := k2.dr a1
    have a4 := k2.dv a2
    refine ⟨?_, a4.same (fun o ho => w _ (by omega)) (w _ (by omega))⟩
    refine (a3.same (u' := upf u2 61 5 1) (fun o ho => w _ (by omega)) (w _ (by omega))).keep (fun i hi => ?_)
    rw [upm_same, hvr 4 (by decide)]
    unfold brG
    rw [if_pos (by omega), show 258 * (n - 1) + (0 + i - 0) = 258 * (n - 1) + i by omega]
  · refine ⟨n - 1, q1, by omega, q15, ans1, ans2, by rw [w 59 (by decide), hu59]; exact m1, fun i hi => ?_⟩
    have e : slotN q1 (n - 1) i = slotN q n i := by unfold slotN; omega
    rw [e, hv 4 (by decide) (by decide)]
    obtain ⟨x1, x2⟩ := c4 i (by omega)
    have hs : slotN q n i < 5 := Nat.mod_lt _ (by decide)
    have hx : ∀ j, (31 ≤ j ∧ j < 46) ∨ (52 ≤ j ∧ j < 57) → upf u2 61 5 1 j = u j := fun j hj => by rw [w j (by omega), hu j (by omega) (by omega) (by omega) (by omega) (by omega)]
    exact ⟨x1.same (fun o ho => hx _ (by omega)) (hx _ (by omega)), x2.same (fun o ho => hx _ (by omega)) (hx _ (by omega))⟩
  · unfold CN
    rw [w 58 (by decide), hu 58 (by decide) (by decide) (by decide) (by decide) (by decide), hv 5 (by decide) (by decide)]
    exact h.2.2.1
  · unfold TX
    rw [w 77 (by decide), hu 77 (by decide) (by decide) (by decide) (by decide) (by decide), w 78 (by decide), hu 78 (by decide) (by decide) (by decide) (by decide) (by decide), hv0 7 (by decide), hv 6 (by decide) (by decide)]
    exact h.2.2.2.1
  · left
    unfold upf
    rw [upm_same, upd_s]
