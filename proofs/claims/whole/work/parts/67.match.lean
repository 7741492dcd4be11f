/-! ===== PHASE B: likeness ===== -/
def scM (f g : Nat → Int32) (b s : Nat) : Int32 := (((if f (32 + b) = g (32 + s) then 4 else 0) + (if f (48 + b) = g (48 + s) then 2 else 0)) + (if f (32 + PF f b) = g (32 + PF g s) then 2 else 0)) + (if f (16 + b) = g (16 + s) then 1 else 0)
theorem it_some {c : Prop} [Decidable c] (a b : Int32) : (if c then some a else some b) = some (if c then a else b) := by
  by_cases e : c
  · rw [if_pos e, if_pos e]
  · rw [if_neg e, if_neg e]
theorem tw_ok {f : Nat → Int32} {k w : Nat} {x : Int32} (hk : k < 16) (hw : w < 5) (hx : x = nI w) (hh : hF f k = true) : X4_trait f (nI k) x = some (f (16 * w + k)) := by
  rw [hx, trait_ok hk hw, trF_here hh]
theorem score_ok {u : Mem} {o b s : Nat} (hf : CloF (u 25)) (hg : CloF (u (25 + o))) (b0 : 0 < b) (hb : b < 16) (s0 : 0 < s) (hs : s < 16) (hfb : hF (u 25) b = true) : X2_score u 0 (nI b) o (nI s) = some (if hF (u (25 + o)) s = true then scM (u 25) (u (25 + o)) b s else 0) := by
  unfold X2_score
  rw [holds_ok hs, ob_some]
  cases hgs : hF (u (25 + o)) s
  · rw [if_pos bt_f]; rfl
  · obtain ⟨p1, p2, p3⟩ := hf.par b0 hb hfb
    obtain ⟨q1, q2, q3⟩ := hg.par s0 hs hgs
    rw [if_neg bt_t, if_pos rfl]
    rw [show X4_trait (u (25 + 0)) (nI b) 2 = some (u 25 (32 + b)) from tw_ok (w := 2) hb (by decide) rfl hfb, show X4_trait (u (25 + o)) (nI s) 2 = some (u (25 + o) (32 + s)) from tw_ok (w := 2) hs (by decide) rfl hgs, show X4_trait (u (25 + 0)) (nI b) 3 = some (u 25 (48 + b)) from tw_ok (w := 3) hb (by decide) rfl hfb, show X4_trait (u (25 + o)) (nI s) 3 = some (u (25 + o) (48 + s)) from tw_ok (w := 3) hs (by decide) rfl hgs, show X4_trait (u (25 + 0)) (nI b) 0 = some (nI (PF (u 25) b)) from trait0 hf b0 hb hfb, show X4_trait (u (25 + o)) (nI s) 0 = some (nI (PF (u (25 + o)) s)) from trait0 hg s0 hs hgs, show X4_trait (u (25 + 0)) (nI b) 1 = some (u 25 (16 + b)) from tw_ok (w := 1) hb (by decide) rfl hfb, show X4_trait (u (25 + o)) (nI s) 1 = some (u (25 + o) (16 + s)) from tw_ok (w := 1) hs (by decide) rfl hgs]
    simp only [ob_some]
    rw [show X4_trait (u (25 + 0)) (nI (PF (u 25) b)) 2 = some (u 25 (32 + PF (u 25) b)) from tw_ok (w := 2) p2 (by decide) rfl p3, show X4_trait (u (25 + o)) (nI (PF (u (25 + o)) s)) 2 = some (u (25 + o) (32 + PF (u (25 + o)) s)) from tw_ok (w := 2) q2 (by decide) rfl q3]
    simp only [ob_some, it_some]
    rfl
theorem rscore_ok {v : Mem} {f g : Nat → Int32} {o b s : Nat} (ho : o < 4) (hf : CloF f) (hg : CloF g) (hRf : RR f (v 1) (64 * 0)) (hRg : RR g (v 1) (64 * o)) (b0 : 0 < b) (hb : b < 16) (s0 : 0 < s) (hs : s < 16) (hfb : hF f b = true) (hgs : hF g s = true) : X9_scoreOf v (nI o) (nI b) (nI s) = some (scM f g b s) := by
  obtain ⟨p1, p2, p3⟩ := hf.par b0 hb hfb
  obtain ⟨q1, q2, q3⟩ := hg.par s0 hs hgs
  obtain ⟨-, -, a0, a1, a2, a3⟩ := rr_yes hRf hb hfb
  obtain ⟨-, -, c0, c1, c2, c3⟩ := rr_yes hRg hs hgs
  obtain ⟨-, -, -, -, d2, -⟩ := rr_yes hRf p2 p3
  obtain ⟨-, -, -, -, e2, -⟩ := rr_yes hRg q2 q3
  unfold X9_scoreOf scM
  rw [rNam (x := 0) (o := 0) rfl rfl (by decide) hb, rNam (o := o) rfl rfl ho hs, rTex (x := 0) (o := 0) rfl rfl (by decide) hb, rTex (o := o) rfl rfl ho hs, rPar (x := 0) (o := 0) rfl rfl (by decide) hb, rPar (o := o) rfl rfl ho hs, rPla (x := 0) (o := 0) rfl rfl (by decide) hb, rPla (o := o) rfl rfl ho hs]
  simp only [ob_some]
  rw [← a0, ← c0, p1, q1, rNam (x := 0) (o := 0) rfl rfl (by decide) p2, rNam (o := o) rfl rfl ho q2]
  simp only [ob_some, it_some]
  rw [← a1, ← a2, ← a3, ← c1, ← c2, ← c3, ← d2, ← e2]
/-- the class's rows of likeness -/
def mS (u u' : Mem) : Prop := ∀ i, i ≠ 74 → i ≠ 75 → i ≠ 76 → u' i = u i
theorem mS.tr {u u' u'' : Mem} (h1 : mS u u') (h2 : mS u' u'') : mS u u'' := fun i a b c => by rw [h2 i a b c, h1 i a b c]
theorem match1 {u : Mem} : ∃ u', X2_match_L2 0 fu 0 u = some u' ∧ mS u u' ∧ (∀ j, j < 16 → u' 75 j = -1) ∧ ∀ j, j < 16 → u' 76 j = if hF (u 25) j = true then 0 else 1 := by
  obtain ⟨r, h1, h2⟩ := lp_fu (fun n (y : Mem) z => X2_match_L2 0 n z y) 0 16 (fun k y => mS u y ∧ (∀ j, j < k → y 75 j = -1) ∧ ∀ j, j < k → y 76 j = if hF (u 25) j = true then 0 else 1) (fun y => mS u y ∧ (∀ j, j < 16 → y 75 j = -1) ∧ ∀ j, j < 16 → y 76 j = if hF (u 25) j = true then 0 else 1) u (by decide) (by decide) ⟨fun _ _ _ _ => rfl, fun j hj => by omega, fun j hj => by omega⟩
    (fun n y h => ⟨y, by rw [X2_match_L2, if_pos (by decide)], h⟩)
    (fun n y k hk ⟨a1, a2, a3⟩ => by
      left
      have e25 : upm y 75 (upd (y 75) k (-1)) (25 + 0) = u 25 := by
        rw [upm_ne _ _ (by decide)]; exact a1 25 (by decide) (by decide) (by decide)
      have bn : (if b2i (hF (u 25) k) = 0 then some (1 : Int32) else some 0) = some (if hF (u 25) k = true then 0 else 1) := by
        cases hF (u 25) k <;> rfl
      have bn2 : bnar (if hF (u 25) k = true then 0 else 1) = if hF (u 25) k = true then 0 else 1 := by
        cases hF (u 25) k <;> decide
      refine ⟨upm (upm y 75 (upd (y 75) k (-1))) 76 (upd (y 76) k (if hF (u 25) k = true then 0 else 1)), ⟨?_, ?_, ?_⟩, ?_⟩
      · intro i x1 x2 x3
        rw [upm_ne _ _ x3, upm_ne _ _ x2]; exact a1 i x1 x2 x3
      · intro j hj
        rw [upm_ne _ _ (by decide), upm_same]
        by_cases e : j = k
        · rw [e, upd_s]
        · rw [upd_n _ _ e]; exact a2 j (by omega)
      · intro j hj
        rw [upm_same]
        by_cases e : j = k
        · rw [e, upd_s]
        · rw [upd_n _ _ e]; exact a3 j (by omega)
      · rw [X2_match_L2, if_neg (by rw [nle_16 (by omega)]; omega), stI_ok hk (by decide), ob_some, e25, holds_ok hk, ob_some, bn, ob_some, bn2, stI_ok hk (by decide), ob_some, nar_1, upm_ne _ _ (by decide)])
  exact ⟨r, h1, h2⟩
def tabM (u : Mem) (f g : Nat → Int32) (B : Nat) : Prop := ∀ b s, 0 < b → b < B → 0 < s → s < 16 → hF f b = true → u 74 (16 * b + s) = if hF g s = true then scM f g b s else 0
theorem match2 {u : Mem} {o : Nat} (ho : o = 1 ∨ o = 2) (hf : CloF (u 25)) (hg : CloF (u (25 + o))) (ht : ∀ j, j < 16 → u 76 j = if hF (u 25) j = true then 0 else 1) : ∃ u', X2_match_L42 0 o fu 1 u = some u' ∧ (∀ i, i ≠ 74 → u' i = u i) ∧ tabM u' (u 25) (u (25 + o)) 16 := by
  obtain ⟨r, h1, h2⟩ := lp_fu (fun n (y : Mem) z => X2_match_L42 0 o n z y) 1 16 (fun k y => 0 < k ∧ (∀ i, i ≠ 74 → y i = u i) ∧ tabM y (u 25) (u (25 + o)) k) (fun y => (∀ i, i ≠ 74 → y i = u i) ∧ tabM y (u 25) (u (25 + o)) 16) u (by decide) (by decide) ⟨by decide, fun _ _ => rfl, fun b s _ hb => by omega⟩
    (fun n y h => ⟨y, by rw [X2_match_L42, if_pos (by decide)], h.2⟩)
    (fun n y k hk ⟨k0, a1, a2⟩ => by
      left
      have inner : ∃ y', X2_match_L51 0 o (nI k) fu 1 y = some y' ∧ (∀ i, i ≠ 74 → y' i = u i) ∧ tabM y' (u 25) (u (25 + o)) (k + 1) := by
        cases hfk : hF (u 25) k
        · refine ⟨y, ?_, a1, ?_⟩
          · have : y 76 k = 1 := by
              rw [a1 76 (by decide), ht k hk, hfk]; rfl
            rw [fu_s, X2_match_L51, if_neg (by decide), rd_ok hk (by decide), ob_some, this, if_neg (by decide)]
          · intro b s b0 hb s0 hs hfb
            by_cases e : b = k
            · rw [e, hfk] at hfb; cases hfb
            · exact a2 b s b0 (by omega) s0 hs hfb
        · obtain ⟨r2, g1, g2, g3⟩ := lp_fu (fun n (z : Mem) x => X2_match_L51 0 o (nI k) n x z) 1 16 (fun j z => 0 < j ∧ (∀ i, i ≠ 74 → z i = u i) ∧ (∀ i, i < 16 * k → z 74 i = y 74 i) ∧ ∀ s, 0 < s → s < j → z 74 (16 * k + s) = if hF (u (25 + o)) s = true then scM (u 25) (u (25 + o)) k s else 0) (fun z => (∀ i, i ≠ 74 → z i = u i) ∧ (∀ i, i < 16 * k → z 74 i = y 74 i) ∧ ∀ s, 0 < s → s < 16 → z 74 (16 * k + s) = if hF (u (25 + o)) s = true then scM (u 25) (u (25 + o)) k s else 0) y (by decide) (by decide) ⟨by decide, a1, fun _ _ => rfl, fun s _ hs => by omega⟩
            (fun n z h => ⟨z, by rw [X2_match_L51, if_pos (by decide)], h.2⟩)
            (fun n z j hj ⟨j0, b1, b2, b3⟩ => by
              left
              have z76 : z 76 k = 0 := by
                rw [b1 76 (by decide), ht k hk, hfk]; rfl
              have zs := score_ok (u := z) (o := o) (b := k) (s := j) (by rw [b1 25 (by decide)]; exact hf) (by rw [b1 (25 + o) (by omega)]; exact hg) k0 hk j0 hj (by rw [b1 25 (by decide)]; exact hfk)
              rw [b1 25 (by decide), b1 (25 + o) (by omega)] at zs
              refine ⟨upm z 74 (upd (z 74) (16 * k + j) (if hF (u (25 + o)) j = true then scM (u 25) (u (25 + o)) k j else 0)), ⟨by omega, fun i hi => by rw [upm_ne _ _ hi]; exact b1 i hi, fun i hi => by rw [upm_same, upd_n _ _ (by omega)]; exact b2 i hi, fun s s0 hs => ?_⟩, ?_⟩
              · rw [upm_same]
                by_cases e : s = j
                · rw [e, upd_s]
                · rw [upd_n _ _ (by omega)]; exact b3 s s0 (by omega)
              · rw [X2_match_L51, if_neg (by rw [nle_16 (by omega)]; omega), rd_ok hk (by decide), ob_some, z76, if_pos rfl, zs, ob_some, nmr_16, i_add, show k * 16 + j = 16 * k + j by omega, stI_ok (by omega) (by decide), ob_some, nar_1])
          refine ⟨r2, g1, g2, fun b s b0 hb s0 hs hfb => ?_⟩
          by_cases e : b = k
          · rw [e]; exact g3.2 s s0 hs
          · rw [g3.1 _ (by omega)]; exact a2 b s b0 (by omega) s0 hs hfb
      obtain ⟨y', c1, c2, c3⟩ := inner
      exact ⟨y', ⟨by omega, c2, c3⟩, by rw [X2_match_L42, if_neg (by rw [nle_16 (by omega)]; omega), c1, ob_some, nar_1]⟩)
  exact ⟨r, h1, h2⟩
