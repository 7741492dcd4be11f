/-! ===== PHASE B: an outline is asked ===== -/
def rowO (o : Nat) : Nat := if o = 3 then 24 else o
theorem Rel.viaN {u v v' : Mem} (h : Rel u v) (hn : FN v v') : Rel u v' := by
  refine h.frame (fun i hi => rfl) rfl rfl hn.2.2 (fun i hi => hn.1 i (by omega) (by omega) (by omega)) (hn.2.1 4 (by decide)) (hn.2.1 7 (by decide))
theorem row_any {u v : Mem} (h : Rel u v) {o : Nat} (ho : o < 4) (hm : o = 3 → Mg u v) : RR (u (25 + rowO o)) (v 1) (64 * o) ∧ Val (u (25 + rowO o)) := by
  unfold rowO
  by_cases e : o = 3
  · subst e
    rw [if_pos rfl]
    exact ⟨(hm rfl).1, (hm rfl).2.1⟩
  · rw [if_neg e]
    exact ⟨h.1.rr (by omega), h.1.val (by omega)⟩
def Asked (u v : Mem) (p : Int32) (o : Nat) (u' v' : Mem) : Prop := o < 4 ∧ p = nI o ∧ X8_isAnyOutline p = some true ∧ X8_outline u p = some (rowO o, u') ∧ X9_isAsked v p = some (true, v') ∧ Rel u' v' ∧ Rel u v' ∧ (o = 3 → Mg u' v') ∧ (o < 3 → u' = u ∧ v' = v)
theorem ask_cases {u v : Mem} (h : Rel u v) (p : Int32) : (X8_isAnyOutline p = some false ∧ X9_isAsked v p = some (false, v)) ∨ ∃ o u' v', Asked u v p o u' v' := by
  by_cases e3 : p = 3
  · right
    obtain ⟨u', v', a1, a2, a3, a4, a5, a6⟩ := asked h
    subst e3
    refine ⟨3, u', v', by decide, rfl, by decide, ?_, ?_, a3, h.viaN a6, fun _ => a4, fun z => by omega⟩
    · unfold X8_outline
      rw [if_pos rfl, a1]; rfl
    · unfold X9_isAsked
      rw [if_pos rfl, a2, ob_some, ob_some]; rfl
  · rcases in_cases p (n := 3) (by decide) with ⟨c1, c2⟩ | ⟨k, k3, rfl, c2⟩
    · left
      constructor
      · unfold X8_isAnyOutline
        rcases own_cases p with ⟨o1, -⟩ | ⟨o, o3, rfl, -⟩
        · rw [o1, ob_some, if_pos bt_f, if_neg e3]
        · exfalso
          rcases c1 with z | z
          · exact i_nn (by omega) z
          · rw [c_le (by omega) (by omega)] at z; omega
      · unfold X9_isAsked
        rw [if_neg e3, ob_some, show X9_in p 0 3 = some false from c2]; rfl
    · right
      have k2 : k < 3 := by
        by_cases e : k = 3
        · subst e; exact absurd rfl e3
        · omega
      refine ⟨k, u, v, by omega, rfl, ?_, ?_, ?_, h, h, fun z => by omega, fun _ => ⟨rfl, rfl⟩⟩
      · unfold X8_isAnyOutline
        rcases own_cases (nI k) with ⟨o1, o2⟩ | ⟨o, o3, o4, o5, -⟩
        · exfalso
          have : ∀ k, k < 3 → X8_isOwnOutline (nI k) = some true := by decide
          rw [this k k2] at o1; cases o1
        · rw [o5, ob_some, if_neg bt_t]
      · unfold X8_outline
        rw [if_neg e3, outl_ok u k2, ob_some]
        unfold rowO
        rw [if_neg (by omega)]
      · unfold X9_isAsked
        rw [if_neg e3, ob_some, show X9_in (nI k) 0 3 = some true from c2]; rfl
theorem number_cases (p : Int32) : (X8_isNumber p = some false ∧ X9_in p 0 15 = some false) ∨ ∃ k, k < 16 ∧ p = nI k ∧ X8_isNumber p = some true ∧ X9_in p 0 15 = some true := by
  rcases in_cases p (n := 15) (by decide) with ⟨c1, c2⟩ | ⟨k, k3, rfl, c2⟩
  · left
    refine ⟨?_, c2⟩
    unfold X8_isNumber
    by_cases z : p < 0
    · rw [if_pos z]
    · rw [if_neg z]
      rcases out_cases p with (h | h) | ⟨k, hk, rfl⟩
      · exact absurd h z
      · rw [if_pos h]
      · exfalso
        rcases c1 with c1 | c1
        · exact z c1
        · rw [c_le (by omega) (by omega)] at c1; omega
  · right
    exact ⟨k, by omega, rfl, isNum (by omega), c2⟩
theorem st_has {u v : Mem} (h : Rel u v) (a b : Int32) : St (X8_has u a b) (X9_has v a b) := by
  unfold X8_has X9_has
  rcases ask_cases h a with ⟨c1, c2⟩ | ⟨o, u', v', o4, rfl, c1, c2, c3, c4, c5, c6, c7⟩
  · rw [c1, ob_some, if_pos bt_f, c2, ob_2, if_pos bt_f]
    exact st_bad h (Or.inl rfl)
  · rw [c1, ob_some, if_neg bt_t, c3, ob_2, if_neg bt_t]
    rcases number_cases b with ⟨d1, d2⟩ | ⟨k, hk, rfl, d1, d2⟩
    · rw [d1, ob_some, if_pos bt_f, d2, ob_some, if_pos bt_f]
      exact st_bad c5 (Or.inl rfl)
    · obtain ⟨hR, -⟩ := row_any c4 o4 c6
      rw [d1, ob_some, if_neg bt_t, d2, ob_some, if_neg bt_t, c2, ob_2, holds_ok hk, ob_some, rIn rfl rfl o4 hk, ob_some, rr_h hR hk]
      cases hF (u' (25 + rowO o)) k
      · exact ⟨0, u', v', rfl, rfl, c4⟩
      · exact ⟨1, u', v', rfl, rfl, c4⟩
theorem of_ok {u v : Mem} {o k w : Nat} (hR : RR (u (25 + rowO o)) (v 1) (64 * o)) (hV : Val (u (25 + rowO o))) (ho : o < 4) (hk : k < 16) (hh : hF (u (25 + rowO o)) k = true) (hw : w ≤ 5) : ∃ r, (if nI w = 4 then X4_childCount (u (25 + rowO o)) (nI k) else if nI w = 5 then X4_countBelow (u (25 + rowO o)) (nI k) else X4_trait (u (25 + rowO o)) (nI k) (nI w)) = some r ∧ X9_ofSection v (nI o) (nI k) (nI w) = some r := by
  obtain ⟨-, -, a0, a1, a2, a3⟩ := rr_yes hR hk hh
  unfold X9_ofSection
  rcases (show w = 0 ∨ w = 1 ∨ w = 2 ∨ w = 3 ∨ w = 4 ∨ w = 5 by omega) with e | e | e | e | e | e <;> subst e
  · refine ⟨u (25 + rowO o) k, ?_, ?_⟩
    · rw [if_neg (by decide), if_neg (by decide), trait_ok hk (by decide), trF_here hh, show 16 * 0 + k = k by omega]
    · rw [if_pos (by decide), rPar rfl rfl ho hk, ob_some, a0]
  · refine ⟨u (25 + rowO o) (16 + k), ?_, ?_⟩
    · rw [if_neg (by decide), if_neg (by decide), trait_ok hk (by decide), trF_here hh]
    · rw [if_neg (by decide), if_pos (by decide), rPla rfl rfl ho hk, ob_some, a1]
  · refine ⟨u (25 + rowO o) (32 + k), ?_, ?_⟩
    · rw [if_neg (by decide), if_neg (by decide), trait_ok hk (by decide), trF_here hh]
    · rw [if_neg (by decide), if_neg (by decide), if_pos (by decide), rNam rfl rfl ho hk, ob_some, a2]
  · refine ⟨u (25 + rowO o) (48 + k), ?_, ?_⟩
    · rw [if_neg (by decide), if_neg (by decide), trait_ok hk (by decide), trF_here hh]
    · rw [if_neg (by decide), if_neg (by decide), if_neg (by decide), if_pos (by decide), rTex rfl rfl ho hk, ob_some, a3]
  · refine ⟨nI (cnt (fun s => chF (u (25 + rowO o)) s (nI k)) 16), ?_, ?_⟩
    · rw [if_pos (by decide)]; exact childCount_ok _ _
    · rw [if_neg (by decide), if_neg (by decide), if_neg (by decide), if_neg (by decide), if_pos (by decide), rKids rfl ho hR (i_m9 (by omega)), ob_some]
  · refine ⟨nI (cnt (fun t => (bsN (u (25 + rowO o)) 15 k).testBit t) 16), ?_, ?_⟩
    · rw [if_neg (by decide), if_pos (by decide)]; exact countBelow_ok hV.1 hk
    · rw [if_neg (by decide), if_neg (by decide), if_neg (by decide), if_neg (by decide), if_neg (by decide), rBel rfl rfl ho hR hV.1 hV.2.1 hk hh, ob_some, ones_ok (bsN_lt _ _ _), ob_some]
theorem st_of {u v : Mem} (h : Rel u v) (a b c : Int32) : St (X8_of u a b c) (X9_of v a b c) := by
  unfold X8_of X9_of
  rcases ask_cases h a with ⟨c1, c2⟩ | ⟨o, u', v', o4, rfl, c1, c2, c3, c4, c5, c6, c7⟩
  · rw [c1, ob_some, if_pos bt_f, c2, ob_2, if_pos bt_f]
    exact st_bad h (Or.inl rfl)
  · obtain ⟨hR, hV⟩ := row_any c4 o4 c6
    rw [c1, ob_some, if_neg bt_t, c3, ob_2, if_neg bt_t]
    rcases in_cases c (n := 5) (by decide) with ⟨d1, d2⟩ | ⟨w, w5, rfl, d2⟩
    · have hx : (if c < 0 then bd2 (X8_refuse u (-2)) fun r4 mu5 => some (r4, mu5) else (if c ≤ 5 then bd2 (X8_outline u (nI o)) fun r6 mu7 => (X4_holds (mu7 (25 + r6)) b).bind fun r8 => (if b2i r8 = 0 then bd2 (X8_refuse mu7 (-2)) fun r12 mu13 => some (r12, mu13) else (if c = 4 then (X4_childCount (mu7 (25 + r6)) b).bind fun r11 => some (r11, mu7) else (if c = 5 then (X4_countBelow (mu7 (25 + r6)) b).bind fun r10 => some (r10, mu7) else (X4_trait (mu7 (25 + r6)) b c).bind fun r9 => some (r9, mu7)))) else bd2 (X8_refuse u (-2)) fun r14 mu15 => some (r14, mu15))) = bd2 (X8_refuse u (-2)) fun r4 mu5 => some (r4, mu5) := by
        by_cases z : c < 0
        · rw [if_pos z]
        · rw [if_neg z, if_neg (by rcases d1 with d1 | d1; exact absurd d1 z; exact d1)]
      rw [hx, show X9_in c 0 5 = some false from d2]
      rcases there_cases (o := o) rfl o4 hR b with ⟨-, t2⟩ | ⟨k, hk, rfl, hh, -, t2⟩
      · rw [t2, ob_some, if_pos bt_f]
        exact st_bad c5 (Or.inl rfl)
      · rw [t2, ob_some, if_neg bt_t, ob_some, if_pos bt_f]
        exact st_bad c5 (Or.inl rfl)
    · rw [if_neg (i_nn (by omega)), if_pos (by rw [nel_5 (by omega)]; exact w5), c2, ob_2, show X9_in (nI w) 0 5 = some true from d2]
      rcases there_cases (o := o) rfl o4 hR b with ⟨t1, t2⟩ | ⟨k, hk, rfl, hh, t1, t2⟩
      · rw [t1, t2, ob_some, ob_some, if_pos bt_f, if_pos bt_f]
        exact st_bad c4 (Or.inl rfl)
      · rw [t1, t2, ob_some, ob_some, if_neg bt_t, if_neg bt_t, ob_some, if_neg bt_t]
        obtain ⟨r, r1, r2⟩ := of_ok hR hV o4 hk hh w5
        rw [r2, ob_some]
        refine ⟨r, u', v', ?_, rfl, c4⟩
        by_cases z4 : nI w = 4
        · rw [if_pos z4] at r1 ⊢
          rw [r1]; rfl
        · rw [if_neg z4] at r1 ⊢
          by_cases z5 : nI w = 5
          · rw [if_pos z5] at r1 ⊢
            rw [r1]; rfl
          · rw [if_neg z5] at r1 ⊢
            rw [r1]; rfl
