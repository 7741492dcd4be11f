/-! ===== PHASE B: merging, step (f): which one is put back, a round ===== -/
def mvM (u : Mem) (p t : Nat) : Bool := hF (u 46) t && (hF (u (46 + (3 - p))) t && (decide (trF (u 49) t 0 = trF (u (46 + (3 - p))) t 0) && decide (trF (u 49) t 0 ≠ trF (u 46) t 0)))
def cand (u : Mem) (p s : Nat) (pb : Nat → Bool) (t : Nat) : Bool := belN (PF (u 49)) 16 s t && (!pb t && mvM u p t)
theorem trait0' {f : Nat → Int32} {k : Nat} (hk : k < 16) : X4_trait f (nI k) 0 = some (trF f k 0) := trait_ok (w := 0) hk (by decide)
theorem mv_ok {u : Mem} {p t : Nat} (hp : p = 1 ∨ p = 2) (h : u 57 3 = nI p) (ht : t < 16) : X3_isMoveOfOther u (nI t) = some (mvM u p t) := by
  unfold X3_isMoveOfOther mvM
  rw [(pref_ok hp h).2, ob_some, holds_ok ht, ob_some, holds_ok ht, ob_some, e4621, trait0' ht, ob_some, trait0' ht, ob_some, trait0' ht, ob_some]
  cases hF (u 46) t
  · rfl
  cases hF (u (46 + (3 - p))) t
  · rfl
  rw [if_neg bt_t, if_neg bt_t]
  by_cases e1 : trF (u 49) t 0 = trF (u (46 + (3 - p))) t 0
  · rw [if_pos e1]
    by_cases e2 : trF (u 49) t 0 = trF (u 46) t 0
    · rw [if_pos e2]; simp [e2]
    · rw [if_neg e2]
      have : decide (trF (u 49) t 0 = trF (u (46 + (3 - p))) t 0) = true := by simp [e1]
      rw [this]
      have : decide (trF (u 49) t 0 ≠ trF (u 46) t 0) = true := by simp [e2]
      rw [this]; rfl
  · rw [if_neg e1]; simp [e1]
def PB (u : Mem) (pb : Nat → Bool) (m : Nat) : Prop := m < 65536 ∧ ∀ t, t < 16 → u 62 t = (if pb t = true then 1 else 0) ∧ m.testBit t = pb t
theorem leastToPutBack_ok {u : Mem} {p s m : Nat} {pb : Nat → Bool} (hp : p = 1 ∨ p = 2) (h : u 57 3 = nI p) (hC : CloF (u 49)) (hs : s < 16) (hh : hF (u 49) s = true) (hb : PB u pb m) : ∃ r, X3_leastToPutBack u (nI s) = some r ∧ ((∃ t, 0 < t ∧ t < 16 ∧ r = nI t ∧ cand u p s pb t = true ∧ ∀ j, 0 < j → j < t → cand u p s pb j = false) ∨ (r = -1 ∧ ∀ j, 0 < j → j < 16 → cand u p s pb j = false)) := by
  unfold X3_leastToPutBack
  exact lp_fu (fun n (_ : Unit) z => X3_leastToPutBack_L2 (nI s) u n z) 1 16 (fun k _ => 0 < k ∧ ∀ j, 0 < j → j < k → cand u p s pb j = false) _ () (by decide) (by decide) ⟨by decide, fun j x1 x2 => by omega⟩
    (fun n _ hJ => ⟨-1, by rw [X3_leastToPutBack_L2, if_pos (by decide)], Or.inr ⟨rfl, hJ.2⟩⟩)
    (fun n _ k hk ⟨hk0, hJ⟩ => by
      rw [X3_leastToPutBack_L2, if_neg (by rw [nle_16 (by omega)]; omega), isBelow_ok hC hs hh hk, ob_some, rd_ok hk (by decide), ob_some, (hb.2 k hk).1, mv_ok hp h hk, ob_some, nar_1]
      have nx : cand u p s pb k = false → ∀ j, 0 < j → j < k + 1 → cand u p s pb j = false := fun z j x1 x2 => by
        by_cases e : j = k
        · rw [e]; exact z
        · exact hJ j x1 (by omega)
      cases h1 : belN (PF (u 49)) 16 s k
      · rw [if_pos bt_f]
        left
        exact ⟨(), ⟨by omega, nx (by unfold cand; rw [h1]; rfl)⟩, rfl⟩
      · rw [if_neg bt_t]
        cases h2 : pb k
        · rw [if_pos (show (if false = true then (1 : Int32) else 0) = 0 by decide)]
          cases h3 : mvM u p k
          · rw [if_pos bt_f]
            left
            exact ⟨(), ⟨by omega, nx (by unfold cand; rw [h1, h2, h3]; rfl)⟩, rfl⟩
          · rw [if_neg bt_t]
            right
            exact ⟨nI k, rfl, Or.inl ⟨k, hk0, hk, rfl, by unfold cand; rw [h1, h2, h3]; rfl, hJ⟩⟩
        · rw [if_neg (show ¬ (if true = true then (1 : Int32) else 0) = 0 by decide)]
          left
          exact ⟨(), ⟨by omega, nx (by unfold cand; rw [h1, h2]; rfl)⟩, rfl⟩)
def lst (c : Nat → Bool) : Nat → Int32 → Int32
  | 0, x => x
  | k + 1, x => lst c k (if c (k + 1) = true then nI (k + 1) else x)
theorem lst_none {c : Nat → Bool} : ∀ (k : Nat) (x : Int32), (∀ j, 0 < j → j ≤ k → c j = false) → lst c k x = x
  | 0, _, _ => rfl
  | k + 1, x, h => by
    show lst c k (if c (k + 1) = true then nI (k + 1) else x) = x
    rw [h (k + 1) (by omega) (by omega), if_neg (by decide)]
    exact lst_none k x (fun j a b => h j a (by omega))
theorem lst_least {c : Nat → Bool} {t : Nat} (h0 : 0 < t) (hc : c t = true) (hm : ∀ j, 0 < j → j < t → c j = false) : ∀ (k : Nat) (x : Int32), t ≤ k → lst c k x = nI t
  | 0, _, h => by omega
  | k + 1, x, h => by
    show lst c k (if c (k + 1) = true then nI (k + 1) else x) = nI t
    by_cases e : t = k + 1
    · subst e
      rw [hc, if_pos rfl]
      exact lst_none k _ (fun j a b => hm j a (by omega))
    · exact lst_least h0 hc hm k _ (by omega)
theorem nm1 (k : Nat) : nI (k + 1) + (-1) = nI k := by
  rw [← nar_1, Int32.add_assoc, show (1 : Int32) + -1 = 0 by decide, Int32.add_zero]
theorem br58 {I : Nat → Bool} {u v : Mem} {p s m rm : Nat} {pb : Nat → Bool} (hB : MB u v p) (hup : ∀ t, t < 16 → belN (PF (u 49)) 16 s t = true → hF (u 49) t = true ∧ v 1 (192 + t) = u 49 t) (hb : PB u pb m) (hrm : rm < 65536) (hrb : ∀ t, t < 16 → rm.testBit t = belN (PF (u 49)) 16 s t) :
    ∀ (k n : Nat) (x : Int32), k < 16 → k < n → X9_breakRings_L58 (nI p) (nI m) v (nI rm) n x (nI k) = some (lst (cand u p s pb) k x) := by
  obtain ⟨hR, hp, -, -⟩ := hB
  have R0 := (hR 0 (by decide)).1
  have R2 := (hR (3 - p) (by omega)).1
  have t3 : (3 : Int32) - nI p = nI (3 - p) := i_sub (a := 3) (b := p) (by omega)
  intro k
  induction k with
  | zero =>
    intro n x h1 h2
    obtain ⟨n, rfl⟩ : ∃ n', n = n' + 1 := ⟨n - 1, by omega⟩
    rw [X9_breakRings_L58, if_pos (by decide)]; rfl
  | succ k ih =>
    intro n x hk h2
    obtain ⟨n, rfl⟩ : ∃ n', n = n' + 1 := ⟨n - 1, by omega⟩
    have hl : lst (cand u p s pb) (k + 1) x = lst (cand u p s pb) k (if cand u p s pb (k + 1) = true then nI (k + 1) else x) := rfl
    have go : ∀ y, X9_breakRings_L58 (nI p) (nI m) v (nI rm) n y (nI (k + 1) + (-1)) = some (lst (cand u p s pb) k y) := fun y => by
      rw [nm1]; exact ih n y (by omega) (by omega)
    rw [X9_breakRings_L58, if_neg (by rw [nel_0 (by omega)]; omega), t3, rIn (x := 0) (o := 0) rfl rfl (by decide) hk, ob_some, rIn (o := 3 - p) rfl rfl (by omega) hk, ob_some, rr_h R0 hk, rr_h R2 hk, hl]
    simp only [go]
    cases c1 : belN (PF (u 49)) 16 s (k + 1)
    · have cf : cand u p s pb (k + 1) = false := by unfold cand; rw [c1]; rfl
      rw [if_neg (by rw [bt_is hrm hk, hrb _ hk, c1]; decide), ob_some, if_pos rfl, cf]; rfl
    · rw [if_pos (by rw [bt_is hrm hk, hrb _ hk, c1])]
      cases c2 : pb (k + 1)
      · rw [if_pos (by rw [bt_isN hb.1 hk, (hb.2 _ hk).2, c2])]
        cases c3 : hF (u 46) (k + 1)
        · have cf : cand u p s pb (k + 1) = false := by unfold cand mvM; rw [c3]; simp
          rw [if_pos bt_f, ob_some, if_pos rfl, cf]; rfl
        · cases c4 : hF (u (46 + (3 - p))) (k + 1)
          · have cf : cand u p s pb (k + 1) = false := by unfold cand mvM; rw [c4]; simp
            rw [if_neg bt_t, if_pos bt_f, ob_some, if_pos rfl, cf]; rfl
          · obtain ⟨g1, g2⟩ := hup _ hk c1
            obtain ⟨-, -, a1, -⟩ := rr_yes R0 hk c3
            obtain ⟨-, -, b1, -⟩ := rr_yes R2 hk c4
            have em : trF (u 49) (k + 1) 0 = v 1 (192 + (k + 1)) := by rw [trF_here g1, show 16 * 0 + (k + 1) = k + 1 by omega, g2]
            have eo : trF (u (46 + (3 - p))) (k + 1) 0 = v 1 (64 * (3 - p) + (k + 1)) := by rw [trF_here c4, show 16 * 0 + (k + 1) = k + 1 by omega]; exact b1
            have z0 : 64 * 0 + (k + 1) = k + 1 := by omega
            rw [z0] at a1
            have eb : trF (u 46) (k + 1) 0 = v 1 (k + 1) := by rw [trF_here c3, show 16 * 0 + (k + 1) = k + 1 by omega]; exact a1
            have ec : cand u p s pb (k + 1) = (decide (v 1 (192 + (k + 1)) = v 1 (64 * (3 - p) + (k + 1))) && decide (v 1 (192 + (k + 1)) ≠ v 1 (k + 1))) := by
              unfold cand mvM
              rw [c1, c2, c3, c4, em, eo, eb]; rfl
            rw [if_neg bt_t, if_neg bt_t, ob_some, if_neg (by decide), par3 hk, ob_some, rPar (o := 3 - p) rfl rfl (by omega) hk, ob_some, ob_some, rPar (x := 0) (o := 0) rfl rfl (by decide) hk, ob_some, z0, ec]
            by_cases e1 : v 1 (192 + (k + 1)) = v 1 (64 * (3 - p) + (k + 1))
            · rw [if_pos e1]
              by_cases e2 : v 1 (64 * (3 - p) + (k + 1)) = v 1 (k + 1)
              · rw [if_pos e2, if_neg (by simp [e1, e2])]
              · rw [if_neg e2, if_pos (by rw [e1]; simp [e2])]
            · rw [if_neg e1, if_neg (by simp [e1])]
      · have cf : cand u p s pb (k + 1) = false := by unfold cand; rw [c2]; simp
        rw [if_neg (by rw [bt_isN hb.1 hk, (hb.2 _ hk).2, c2]; decide), ob_some, if_pos rfl, cf]; rfl
