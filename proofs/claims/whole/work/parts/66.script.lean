/-! ===== PHASE B: what a side did ===== -/
theorem ob_id {α : Type} (x : Option α) : (x.bind fun m => some m) = x := by cases x <;> rfl
def SC (u v : Mem) (n : Nat) : Prop := u 68 3 = nI n ∧ v 0 17 = nI n ∧ ∀ k, k < n → u 69 k = v 13 (2 * k) ∧ u 70 k = v 13 (2 * k + 1)
def SFx (u u' : Mem) : Prop := ∀ i, i ≠ 68 → i ≠ 69 → i ≠ 70 → i ≠ 71 → u' i = u i
def SGy (v v' : Mem) : Prop := (∀ i, i ≠ 0 → i ≠ 13 → v' i = v i) ∧ ∀ i, i ≠ 17 → v' 0 i = v 0 i
theorem SFx.tr {u u' u'' : Mem} (h1 : SFx u u') (h2 : SFx u' u'') : SFx u u'' := fun i a b c d => by rw [h2 i a b c d, h1 i a b c d]
theorem SGy.tr {u u' u'' : Mem} (h1 : SGy u u') (h2 : SGy u' u'') : SGy u u'' := ⟨fun i a b => by rw [h2.1 i a b, h1.1 i a b], fun i a => by rw [h2.2 i a, h1.2 i a]⟩
theorem sc_tell {u v : Mem} {n : Nat} (hn : n < 48) (h : SC u v n) (a b : Int32) : ∃ u' v', X6_tell u 1 a b (-1) = some u' ∧ X9_step v a b = some v' ∧ SC u' v' (n + 1) ∧ SFx u u' ∧ SGy v v' := by
  obtain ⟨h1, h2, h3⟩ := h
  have hl : n < lenT 1 := by
    have : (48 : Nat) ≤ lenT 1 := by decide
    omega
  have hll : lenT 1 < 2147483648 := by decide
  unfold X6_tell X9_step stF
  have z : ¬ Int32.ofNat (lenT 1) ≤ nI n := by
    show ¬ nI (lenT 1) ≤ nI n
    rw [c_le hll (by omega)]; omega
  have g1 : u (64 + 4 * 1) 3 = nI n := h1
  rw [g1, if_neg (i_nn (by omega)), if_neg z, if_neg z, if_neg z, stI_ok hl hll, ob_some]
  have e1 : upm u (64 + 4 * 1 + 1) (upd (u (64 + 4 * 1 + 1)) n a) (64 + 4 * 1) 3 = nI n := by rw [upm_ne _ _ (by decide)]; exact h1
  rw [e1, stI_ok hl hll, ob_some]
  have e2 : ∀ r, upm (upm u (64 + 4 * 1 + 1) (upd (u (64 + 4 * 1 + 1)) n a)) (64 + 4 * 1 + 2) r (64 + 4 * 1) 3 = nI n := fun r => by rw [upm_ne _ _ (by decide)]; exact e1
  rw [e2, stI_ok hl hll, ob_some, ob_some]
  rw [h2, nml_2, stI_ok (by omega) (by decide), ob_some]
  have f1 : ∀ r, upm v 13 r 0 17 = nI n := fun r => by rw [upm_ne _ _ (by decide)]; exact h2
  rw [f1, nml_2, nar_1, stI_ok (by omega) (by decide), ob_some, upm_same, upm_upm, ob_some]
  refine ⟨_, _, rfl, rfl, ⟨?_, ?_, fun k hk => ?_⟩, fun i x1 x2 x3 x4 => ?_, fun i x1 x2 => ?_, fun i x1 => ?_⟩
  · unfold upf
    show upm _ 68 _ 68 3 = _
    rw [upm_same, upd_s, upm_ne _ _ (by decide), upm_ne _ _ (by decide), upm_ne _ _ (by decide), g1, nar_1]
  · unfold upf
    rw [upm_same, upd_s, f1, nar_1]
  · have q : ∀ (w : Mem) (i j : Nat) (r : Nat → Int32), upm w i r j = if j = i then r else w j := fun _ _ _ _ => rfl
    simp only [upf, q, Nat.reduceAdd, Nat.reduceMul, Nat.reduceEqDiff, if_true, if_false]
    by_cases e : k = n
    · subst e
      rw [upd_s, upd_s, upd_s, upd_n _ _ (show 2 * k ≠ 2 * k + 1 by omega), upd_s]
      exact ⟨rfl, rfl⟩
    · rw [upd_n _ _ e, upd_n _ _ e, upd_n _ _ (show 2 * k ≠ 2 * n + 1 by omega), upd_n _ _ (show 2 * k ≠ 2 * n by omega), upd_n _ _ (show 2 * k + 1 ≠ 2 * n + 1 by omega), upd_n _ _ (show 2 * k + 1 ≠ 2 * n by omega)]
      exact h3 k (by omega)
  · unfold upf
    rw [upm_ne _ _ x1, upm_ne _ _ x4, upm_ne _ _ x3, upm_ne _ _ x2]
  · unfold upf
    rw [upm_ne _ _ x1, upm_ne _ _ x2]
  · unfold upf
    rw [upm_same, upd_n _ _ x1, upm_ne _ _ (by decide)]
/-- one more line, or none -/
theorem sc_opt {u v : Mem} {n : Nat} (hn : n < 48) (h : SC u v n) (a b : Int32) (c : Prop) [Decidable c] : ∃ u' v' n', (if c then some u else X6_tell u 1 a b (-1)) = some u' ∧ (if c then some v else X9_step v a b) = some v' ∧ SC u' v' n' ∧ n' ≤ n + 1 ∧ SFx u u' ∧ SGy v v' := by
  by_cases e : c
  · rw [if_pos e, if_pos e]
    exact ⟨u, v, n, rfl, rfl, h, by omega, fun _ _ _ _ _ => rfl, fun _ _ _ => rfl, fun _ _ => rfl⟩
  · rw [if_neg e, if_neg e]
    obtain ⟨u', v', h1, h2, h3, h4, h5⟩ := sc_tell hn h a b
    exact ⟨u', v', n + 1, h1, h2, h3, by omega, h4, h5⟩
theorem wc_ok {u : Mem} {o s w : Nat} {x kd : Int32} (hs : s < 16) (hw : w < 5) (hx : x = nI w) : X5_writeChange u 0 o (nI s) x kd = if trF (u 25) s w = trF (u (25 + o)) s w then some u else X6_tell u 1 kd (nI s) (-1) := by
  unfold X5_writeChange
  rw [hx, trait_ok hs hw, ob_some, trait_ok hs hw, ob_some, ob_id]
  by_cases e : trF (u 25) s w = trF (u (25 + o)) s w
  · rw [if_pos e, if_pos (show trF (u (25 + o)) s w = trF (u (25 + 0)) s w from e.symm)]
  · rw [if_neg e, if_neg (show ¬ trF (u (25 + o)) s w = trF (u (25 + 0)) s w from fun z => e z.symm)]
theorem write_ok {u v : Mem} (h : Rel u v) {o : Nat} (ho : o = 1 ∨ o = 2) : ∃ u' v' n, X5_write u 0 o = some u' ∧ X9_layScript v (nI o) = some v' ∧ SC u' v' n ∧ n ≤ 48 ∧ SFx u u' ∧ SGy v v' := by
  let u1 : Mem := upf u 68 3 0
  let v1 : Mem := upf v 0 17 0
  have hu1 : SFx u u1 := fun i a _ _ _ => upm_ne _ _ a
  have hv1 : SGy v v1 := ⟨fun i a _ => upm_ne _ _ a, fun i a => by
    show upf v 0 17 0 0 i = _
    unfold upf
    rw [upm_same, upd_n _ _ a]⟩
  have sc1 : SC u1 v1 0 := ⟨by
    show upf u 68 3 0 68 3 = _
    unfold upf
    rw [upm_same, upd_s]; rfl, by
    show upf v 0 17 0 0 17 = _
    unfold upf
    rw [upm_same, upd_s]; rfl, fun k hk => by omega⟩
  obtain ⟨u', v', e1, e2, n, e3, e4, e5, e6⟩ := lk (X5_write_L9 0 o) (X9_layScript_L7 (nI o)) 16 (by decide) (fun k a b => ∃ n, n ≤ 3 * k ∧ SC a b n ∧ SFx u a ∧ SGy v b) (fun n u => by rw [X5_write_L9, if_pos (by decide)]) (fun n u => by rw [X9_layScript_L7, if_pos (by decide)])
    (fun n m a b k hk ⟨c, hc, hsc, hfx, hgy⟩ => by
      have rows : ∀ (a b : Mem), SFx u a → SGy v b → a 25 = u 25 ∧ a (25 + o) = u (25 + o) ∧ RR (u 25) (b 1) (64 * 0) ∧ RR (u (25 + o)) (b 1) (64 * o) := by
        intro a b ha hb
        rw [ha 25 (by decide) (by decide) (by decide) (by decide), ha (25 + o) (by omega) (by omega) (by omega) (by omega), hb.1 1 (by decide) (by decide)]
        exact ⟨rfl, rfl, h.1.rr (o := 0) (by decide), h.1.rr (o := o) (by omega)⟩
      obtain ⟨r1, r2, r3, r4⟩ := rows a b hfx hgy
      have ho4 : o < 4 := by omega
      rw [X5_write_L9, if_neg (by rw [nle_16 (by omega)]; omega), X9_layScript_L7, if_neg (by rw [nle_16 (by omega)]; omega), holds_ok hk, ob_some, holds_ok hk, ob_some, rIn (x := 0) (o := 0) rfl rfl (by decide) hk, ob_some, rIn rfl rfl ho4 hk, ob_some, rr_h r3 hk, rr_h r4 hk, nar_1, show a (25 + 0) = u 25 from r1, r2]
      cases h1 : hF (u 25) k <;> cases h2 : hF (u (25 + o)) k
      · exact ⟨a, b, ⟨c, by omega, hsc, hfx, hgy⟩, rfl, rfl⟩
      · obtain ⟨a', b', t1, t2, t3, t4, t5⟩ := sc_tell (by omega) hsc 1 (nI k)
        refine ⟨a', b', ⟨c + 1, by omega, t3, hfx.tr t4, hgy.tr t5⟩, ?_, ?_⟩
        · show (X6_tell a 1 1 (nI k) (-1)).bind _ = _
          rw [t1]; rfl
        · show (X9_step b 1 (nI k)).bind _ = _
          rw [t2]; rfl
      · obtain ⟨a', b', t1, t2, t3, t4, t5⟩ := sc_tell (by omega) hsc 2 (nI k)
        refine ⟨a', b', ⟨c + 1, by omega, t3, hfx.tr t4, hgy.tr t5⟩, ?_, ?_⟩
        · show (X6_tell a 1 2 (nI k) (-1)).bind _ = _
          rw [t1]; rfl
        · show (X9_step b 2 (nI k)).bind _ = _
          rw [t2]; rfl
      · have cnd : ∀ (b : Mem), SGy v b → (trF (u 25) k 0 = b 1 (64 * 0 + k) ∧ trF (u (25 + o)) k 0 = b 1 (64 * o + k)) ∧ (trF (u 25) k 2 = b 1 (64 * 0 + 32 + k) ∧ trF (u (25 + o)) k 2 = b 1 (64 * o + 32 + k)) ∧ (trF (u 25) k 3 = b 1 (64 * 0 + 48 + k) ∧ trF (u (25 + o)) k 3 = b 1 (64 * o + 48 + k)) := by
          intro b hb
          obtain ⟨-, -, r3, r4⟩ := rows a b hfx hb
          obtain ⟨-, -, a0, -, a2, a3⟩ := rr_yes r3 hk h1
          obtain ⟨-, -, b0, -, b2, b3⟩ := rr_yes r4 hk h2
          have e : 16 * 0 + k = k := by omega
          exact ⟨⟨(trF_here h1).trans ((congrArg (u 25) e).trans a0), (trF_here h2).trans ((congrArg (u (25 + o)) e).trans b0)⟩, ⟨(trF_here h1).trans a2, (trF_here h2).trans b2⟩, (trF_here h1).trans a3, (trF_here h2).trans b3⟩
        obtain ⟨a3, b3, n3, t1, t2, t3, t4, t5, t6⟩ := sc_opt (by omega) hsc 3 (nI k) (trF (u 25) k 0 = trF (u (25 + o)) k 0)
        obtain ⟨q1, q2, -, -⟩ := rows a3 b3 (hfx.tr t5) (hgy.tr t6)
        obtain ⟨a4, b4, n4, s1, s2, s3, s4, s5, s6⟩ := sc_opt (by omega) t3 4 (nI k) (trF (u 25) k 2 = trF (u (25 + o)) k 2)
        obtain ⟨p1, p2, -, -⟩ := rows a4 b4 ((hfx.tr t5).tr s5) ((hgy.tr t6).tr s6)
        obtain ⟨a5, b5, n5, w1, w2, w3, w4, w5, w6⟩ := sc_opt (by omega) s3 5 (nI k) (trF (u 25) k 3 = trF (u (25 + o)) k 3)
        refine ⟨a5, b5, ⟨n5, by omega, w3, ((hfx.tr t5).tr s5).tr w5, ((hgy.tr t6).tr s6).tr w6⟩, ?_, ?_⟩
        · rw [if_neg bt_t, if_neg bt_t, wc_ok (x := 0) (w := 0) hk (by decide) rfl, r1, r2, t1, ob_some, wc_ok (x := 2) (w := 2) hk (by decide) rfl, q1, q2, s1, ob_some, wc_ok (x := 3) (w := 3) hk (by decide) rfl, p1, p2, w1, ob_some]
        · obtain ⟨⟨x1, y1⟩, -, -⟩ := cnd b hgy
          obtain ⟨-, ⟨x2, y2⟩, -⟩ := cnd b3 (hgy.tr t6)
          obtain ⟨-, -, x3, y3⟩ := cnd b4 ((hgy.tr t6).tr s6)
          rw [ob_some, ob_some, if_pos rfl, if_neg bt_t, rPar (x := 0) (o := 0) rfl rfl (by decide) hk, ob_some, rPar rfl rfl ho4 hk, ob_some, ← x1, ← y1, ob_id, t2, ob_some, rNam (x := 0) (o := 0) rfl rfl (by decide) hk, ob_some, rNam rfl rfl ho4 hk, ob_some, ← x2, ← y2, ob_id, s2, ob_some, rTex (x := 0) (o := 0) rfl rfl (by decide) hk, ob_some, rTex rfl rfl ho4 hk, ob_some, ← x3, ← y3]
          by_cases e : trF (u 25) k 3 = trF (u (25 + o)) k 3
          · rw [if_pos e] at w2 ⊢
            cases w2; rfl
          · rw [if_neg e] at w2 ⊢
            rw [w2, ob_some])
    0 u1 v1 fu fu (by decide) (by decide) (by decide) ⟨0, by omega, sc1, hu1, hv1⟩
  refine ⟨u', v', n, ?_, ?_, e4, by omega, e5, e6⟩
  · unfold X5_write X6_wipe stF
    rw [ob_some, ob_some, show X5_write_L9 0 o fu 0 (upf u (64 + 4 * 1) 3 0) = some u' from e1]; rfl
  · unfold X9_layScript stF
    rw [ob_some, show X9_layScript_L7 (nI o) fu 0 (upf v 0 17 0) = some v' from e2]; rfl
theorem Rel.viaS {u v u' v' : Mem} (h : Rel u v) (h1 : SFx u u') (h2 : SGy v v') : Rel u' v' :=
  h.frame (fun i hi => h1 i (by omega) (by omega) (by omega) (by omega)) (by rw [h1 61 (by decide) (by decide) (by decide) (by decide)]) (by rw [h1 77 (by decide) (by decide) (by decide) (by decide)]) (fun i _ => by rw [h2.1 1 (by decide) (by decide)]) (fun i hi => h2.1 i (by omega) (by omega)) (h2.2 4 (by decide)) (h2.2 7 (by decide))
theorem st_script {u v : Mem} (h : Rel u v) (a b c : Int32) : St (X8_script u a b c) (X9_script v a b c) := by
  unfold X8_script X9_script
  rcases side_cases a with ⟨c1, c2⟩ | ⟨o, ho, rfl, c1, c2⟩
  · rw [c1, c2, ob_some, ob_some, if_pos bt_f, if_pos bt_f]
    exact st_bad h (Or.inl rfl)
  · rw [c1, c2, ob_some, ob_some, if_neg bt_t, if_neg bt_t]
    rcases row_cases b c (c := 2) (Or.inl rfl) (x := 2) rfl with ⟨c1, c2⟩ | ⟨c1, c2, c3, c4⟩
    · rw [c1, ob_some, if_pos bt_f]
      rcases c2 with z | ⟨z, c2⟩
      · rw [if_pos z]
        exact st_bad h (Or.inl rfl)
      · rw [if_neg z]
        have : ((if b = -1 then some (0 : Int32) else some 1).bind fun x6 => (X9_in c 0 x6).bind fun r8 => (if b2i r8 = 0 then bd2 (X9_refuse v (-2)) fun r11 mu12 => some (r11, mu12) else (X9_layScript v (nI o)).bind fun mu9 => (if b = -1 then some (mu9 0 17, mu9) else (if mu9 0 17 ≤ b then some (-5, mu9) else (rd 96 (mu9 13) (2 * b + c)).bind fun v10 => some (v10, mu9))))) = bd2 (X9_refuse v (-2)) fun r8 mu9 => some (r8, mu9) := by
          rw [← Option.bind_assoc, show ((if b = -1 then some (0 : Int32) else some 1).bind fun x6 => X9_in c 0 x6) = some false from c2, ob_some, if_pos bt_f]
        rw [this]
        exact st_bad h (Or.inl rfl)
    · rw [c1, ob_some, if_neg bt_t, if_neg c2]
      obtain ⟨u', v', n, e1, e2, ⟨m1, m2, m3⟩, hn, e4, e5⟩ := write_ok h ho
      have e3 := h.viaS e4 e5
      have : ((if b = -1 then some (0 : Int32) else some 1).bind fun x6 => (X9_in c 0 x6).bind fun r8 => (if b2i r8 = 0 then bd2 (X9_refuse v (-2)) fun r11 mu12 => some (r11, mu12) else (X9_layScript v (nI o)).bind fun mu9 => (if b = -1 then some (mu9 0 17, mu9) else (if mu9 0 17 ≤ b then some (-5, mu9) else (rd 96 (mu9 13) (2 * b + c)).bind fun v10 => some (v10, mu9))))) = (if b = -1 then some (v' 0 17, v') else (if v' 0 17 ≤ b then some (-5, v') else (rd 96 (v' 13) (2 * b + c)).bind fun v10 => some (v10, v'))) := by
        rw [← Option.bind_assoc, show ((if b = -1 then some (0 : Int32) else some 1).bind fun x6 => X9_in c 0 x6) = some true from c3, ob_some, if_neg bt_t, e2, ob_some]
      rw [this, show X0_outline u 0 0 = some 0 from outl_ok u (o := 0) (by decide), ob_some, outl_ok u (by omega), ob_some, e1, ob_some]
      unfold X6_answer
      have m1' : u' (64 + 4 * 1) 3 = nI n := m1
      rcases c4 with ⟨rfl, -⟩ | ⟨z1, z2, w, hw, rfl⟩
      · rw [if_pos rfl, if_pos rfl]
        refine ⟨nI n, u', v', by rw [ob_some, m1'], by rw [m2], e3⟩
      · rw [if_neg z1, if_neg z1, if_neg z2, m1', m2]
        rcases i_cases b (n := n) (by omega) with q | q | ⟨i, hi, rfl⟩
        · exact absurd q z2
        · rw [if_pos q, if_pos q]
          exact ⟨-5, u', v', rfl, rfl, e3⟩
        · have hll : lenT 1 < 2147483648 := by decide
          have hl48 : (48 : Nat) ≤ lenT 1 := by decide
          have hl : i < lenT 1 := by omega
          have l1 : ¬ Int32.ofNat (lenT 1) ≤ nI i := by
            show ¬ nI (lenT 1) ≤ nI i
            rw [c_le hll (by omega)]; omega
          have l2 : nI i < Int32.ofNat (lenT 1) := by
            show nI i < nI (lenT 1)
            rw [c_lt (by omega) hll]; omega
          have nl : ¬ nI n ≤ nI i := by rw [c_le (by omega) (by omega)]; omega
          rw [if_neg nl, if_neg nl, if_neg l1, if_neg l1, if_pos l2, nml_2, i_add, rd_ok (show 2 * i + w < 96 by omega) (by decide), ob_some]
          obtain ⟨m31, m32⟩ := m3 i hi
          rw [rd_ok hl hll, rd_ok hl hll, rd_ok hl hll, ob_some, ob_some, ob_some]
          rcases (show w = 0 ∨ w = 1 by omega) with e | e <;> subst e
          · rw [if_pos (by decide), ob_some]
            exact ⟨v' 13 (2 * i + 0), u', v', by rw [← show u' 69 i = v' 13 (2 * i + 0) from m31], rfl, e3⟩
          · rw [if_neg (by decide), if_pos (by decide), ob_some]
            exact ⟨v' 13 (2 * i + 1), u', v', by rw [← show u' 70 i = v' 13 (2 * i + 1) from m32], rfl, e3⟩
