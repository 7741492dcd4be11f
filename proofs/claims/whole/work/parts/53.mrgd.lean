/-! ===== PHASE B: merging, steps (b) to (d): names, texts, parents ===== -/
theorem pref_ok {u : Mem} {p : Nat} (hp : p = 1 ∨ p = 2) (h : u 57 3 = nI p) : X0_preferredSide u 7 = some (21 + p) ∧ X0_otherSide u 7 = some (21 + (3 - p)) := by
  unfold X0_preferredSide X0_otherSide
  show (if u 57 3 = 2 then some (3 * 7 + 2) else some (3 * 7 + 1)) = _ ∧ (if u 57 3 = 2 then some (3 * 7 + 1) else some (3 * 7 + 2)) = _
  rw [h]
  rcases hp with rfl | rfl
  · rw [if_neg (by decide), if_neg (by decide)]; exact ⟨rfl, rfl⟩
  · rw [if_pos (by decide), if_pos (by decide)]; exact ⟨rfl, rfl⟩
def s2M (u : Mem) (p s w : Nat) : Bool := !hF (u (46 + p)) s || (hF (u (46 + (3 - p))) s && (hF (u 46) s && !othF (u (46 + p)) (u 46) s w))
def vlM (u : Mem) (p s w : Nat) : Int32 := if s2M u p s w = true then trF (u (46 + (3 - p))) s w else trF (u (46 + p)) s w
def dsM (u : Mem) (p s w : Nat) : Bool := hF (u (46 + p)) s && (hF (u (46 + (3 - p))) s && (decide (trF (u (46 + p)) s w ≠ trF (u (46 + (3 - p))) s w) && (!hF (u 46) s || (othF (u (46 + p)) (u 46) s w && othF (u (46 + (3 - p))) (u 46) s w))))
theorem e4621 (q : Nat) : 25 + (21 + q) = 46 + q := by omega
theorem src_ok {u : Mem} {p s w : Nat} {x : Int32} (hp : p = 1 ∨ p = 2) (h : u 57 3 = nI p) (hs : s < 16) (hw : w < 5) (hx : x = nI w) : X3_sourceOf u (nI s) x = some (if s2M u p s w = true then 21 + (3 - p) else 21 + p) := by
  unfold X3_sourceOf s2M
  rw [(pref_ok hp h).1, (pref_ok hp h).2, ob_some, ob_some, holds_ok hs, ob_some, holds_ok hs, ob_some, isOther_ok hs hw hx, ob_some, holds_ok hs, e4621, e4621]
  cases hF (u (46 + p)) s <;> cases hF (u 46) s <;> cases hF (u (46 + (3 - p))) s <;> cases othF (u (46 + p)) (u 46) s w <;> rfl
theorem dis_ok {u : Mem} {p s w : Nat} {x : Int32} (hp : p = 1 ∨ p = 2) (h : u 57 3 = nI p) (hs : s < 16) (hw : w < 5) (hx : x = nI w) : X3_isDisputed u (nI s) x = some (dsM u p s w) := by
  unfold X3_isDisputed dsM
  rw [(pref_ok hp h).1, (pref_ok hp h).2, ob_some, ob_some, holds_ok hs, ob_some, holds_ok hs, ob_some, hx, trait_ok hs hw, ob_some, trait_ok hs hw, ob_some, holds_ok hs, ob_some, isOther_ok hs hw rfl, ob_some, isOther_ok hs hw rfl, ob_some, e4621, e4621]
  by_cases e : trF (u (46 + p)) s w = trF (u (46 + (3 - p))) s w
  · rw [if_pos e]
    have : decide (trF (u (46 + p)) s w ≠ trF (u (46 + (3 - p))) s w) = false := by simp [e]
    rw [this]
    cases hF (u (46 + p)) s <;> cases hF (u (46 + (3 - p))) s <;> rfl
  · rw [if_neg e]
    have : decide (trF (u (46 + p)) s w ≠ trF (u (46 + (3 - p))) s w) = true := by simp [e]
    rw [this]
    cases hF (u (46 + p)) s <;> cases hF (u 46) s <;> cases hF (u (46 + (3 - p))) s <;> cases othF (u (46 + p)) (u 46) s w <;> cases othF (u (46 + (3 - p))) (u 46) s w <;> rfl
def setM (u : Mem) (p s w : Nat) : Mem := upm u 49 (upd (u 49) (16 * w + s) (vlM u p s w))
def otM (u : Mem) (p s w : Nat) : Int32 := if w = 0 then trF (u (46 + (3 - p))) s 0 else nI s
theorem FMp {u u' : Mem} (h : FM u u') {q : Nat} (hq : q < 3) : u' (46 + q) = u (46 + q) := h.at (by omega)
theorem vlM_keep {u u' : Mem} (h : FM u u') {p : Nat} (hp : p = 1 ∨ p = 2) (s w : Nat) : vlM u' p s w = vlM u p s w := by
  unfold vlM s2M
  rw [FMp h (q := p) (by omega), FMp h (q := 3 - p) (by omega), h.at (i := 46) (by omega)]
theorem dsM_keep {u u' : Mem} (h : FM u u') {p : Nat} (hp : p = 1 ∨ p = 2) (s w : Nat) : dsM u' p s w = dsM u p s w := by
  unfold dsM
  rw [FMp h (q := p) (by omega), FMp h (q := 3 - p) (by omega), h.at (i := 46) (by omega)]
theorem otM_keep {u u' : Mem} (h : FM u u') {p : Nat} (hp : p = 1 ∨ p = 2) (s w : Nat) : otM u' p s w = otM u p s w := by
  unfold otM
  rw [FMp h (q := 3 - p) (by omega)]
theorem ct_step {u : Mem} {p s w n : Nat} {x c : Int32} (hp : p = 1 ∨ p = 2) (h : u 57 3 = nI p) (hs : s < 16) (hw : w < 5) (hx : x = nI w) : X3_chooseTraits_L2 x c (n + 1) (nI s) u = if hF (u 49) s = true then (if dsM u p s w = true then (X6_tell (setM u p s w) 0 c (nI s) (otM u p s w)).bind fun m => X3_chooseTraits_L2 x c n (nI (s + 1)) m else X3_chooseTraits_L2 x c n (nI (s + 1)) (setM u p s w)) else X3_chooseTraits_L2 x c n (nI (s + 1)) u := by
  rw [X3_chooseTraits_L2, if_neg (by rw [nle_16 (by omega)]; omega), holds_ok hs, ob_some, nar_1]
  cases hh : hF (u 49) s
  · rw [if_pos bt_f, if_neg (by decide)]
  · rw [if_neg bt_t, if_pos rfl, src_ok hp h hs hw hx, ob_some]
    have e1 : X4_trait (u (25 + if s2M u p s w = true then 21 + (3 - p) else 21 + p)) (nI s) x = some (vlM u p s w) := by
      rw [hx, trait_ok hs hw]
      unfold vlM
      cases s2M u p s w
      · rw [if_neg (by decide), if_neg (by decide), e4621]
      · rw [if_pos rfl, if_pos rfl, e4621]
    have e2 : stO u 49 (X4_put (u 49) (nI s) x (vlM u p s w)) = some (setM u p s w) := by
      unfold stO
      rw [hx, put_ok hs hw]; rfl
    have hF : FM u (setM u p s w) := FM.p49
    have h' : setM u p s w 57 3 = nI p := by rw [hF.at (i := 57) (by omega)]; exact h
    rw [e1, ob_some, e2, ob_some, dis_ok hp h' hs hw hx, ob_some, dsM_keep hF hp]
    cases dsM u p s w
    · rw [if_pos bt_f]; rfl
    · rw [if_neg bt_t, if_pos rfl, (pref_ok hp h').2, ob_some, e4621, (show ∀ f, X4_trait f (nI s) 0 = some (trF f s 0) from fun f => trait_ok (w := 0) hs (by decide)), ob_some, FMp hF (q := 3 - p) (by omega)]
      unfold otM
      by_cases h0 : w = 0
      · subst h0
        rw [if_pos (show x = 0 from hx), if_pos rfl, ob_some]
      · have : ¬ x = 0 := by
          rw [hx, neq_0 (by omega)]; exact h0
        rw [if_neg this, if_neg h0, ob_some]
theorem rr_w {f g : Nat → Int32} {b k w : Nat} (h : RR f g b) (hk : k < 16) (hw : w = 0 ∨ w = 2 ∨ w = 3) (hh : hF f k = true) : trF f k w = g (b + 16 * w + k) := by
  obtain ⟨-, -, a1, -, a3, a4⟩ := rr_yes h hk hh
  rw [trF_here hh]
  rcases hw with rfl | rfl | rfl
  · rw [show 16 * 0 + k = k by omega, a1]; rfl
  · rw [show 16 * 2 + k = 32 + k by omega, a3]
  · rw [show 16 * 3 + k = 48 + k by omega, a4]
theorem settle_step {u v : Mem} {p s w : Nat} {x kd : Int32} (hB : MB u v p) (hs : s < 16) (hw : w = 0 ∨ w = 2 ∨ w = 3) (hI : hF (u (46 + p)) s = true ∨ hF (u (46 + (3 - p))) s = true) (hx : x = nI (16 * w)) (hk : kd = 2 ↔ w = 0) :
    X9_settle v x (nI s) kd = (if dsM u p s w = true then X9_conflict v kd (nI s) (otM u p s w) else some v).bind fun m => some (upm m 1 (upd (m 1) (192 + 16 * w + s) (vlM u p s w))) := by
  obtain ⟨hR, hp, -, hq⟩ := hB
  have hp3 : p < 3 := by omega
  have R0 := (hR 0 (by decide)).1
  have R1 := (hR p hp3).1
  have R2 := (hR (3 - p) (by omega)).1
  have hA : hF (u (46 + p)) s = true → trF (u (46 + p)) s w = v 1 (64 * p + 16 * w + s) := rr_w R1 hs hw
  have hB2 : hF (u (46 + (3 - p))) s = true → trF (u (46 + (3 - p))) s w = v 1 (64 * (3 - p) + 16 * w + s) := rr_w R2 hs hw
  have hC : hF (u 46) s = true → trF (u 46) s w = v 1 (16 * w + s) := fun z => by
    have := rr_w R0 hs hw z
    rw [show 64 * 0 + 16 * w + s = 16 * w + s by omega] at this
    exact this
  have t3 : (3 : Int32) - nI p = nI (3 - p) := i_sub (a := 3) (b := p) (by omega)
  have fin : ∀ (m : Mem) (y : Int32), ((stI 258 m 1 ((192 + x) + nI s) y).bind fun mu10 => some mu10) = some (upm m 1 (upd (m 1) (192 + 16 * w + s) y)) := by
    intro m y
    rw [hx, nal_192, i_add, stI_ok (by omega) (by decide)]; rfl
  unfold X9_settle
  rw [(show rd 258 (v 1) 256 = some (v 1 256) from rd_ok (i := 256) (by decide) (by decide)), ob_some, hq, t3, nml_64, nml_64, hx, i_add, i_add, i_add, i_add, i_add, rd_ok (by omega) (by decide), ob_some, rd_ok (by omega) (by decide), ob_some, rd_ok (by omega) (by decide), ob_some, rIn (x := 0) (o := 0) rfl rfl (by decide) hs, ob_some, rIn (o := p) rfl rfl (by omega) hs, ob_some, rIn (o := 3 - p) rfl rfl (by omega) hs, ob_some, rr_h R0 hs, rr_h R1 hs, rr_h R2 hs, ← hx]
  have eo : (if kd = 2 then some (v 1 (64 * (3 - p) + 16 * w + s)) else some (nI s)) = some (if w = 0 then v 1 (64 * (3 - p) + 16 * w + s) else nI s) := by
    by_cases h0 : w = 0
    · rw [if_pos (hk.mpr h0), if_pos h0]
    · rw [if_neg (fun z => h0 (hk.mp z)), if_neg h0]
  rw [eo]
  simp only [ob_some]
  have fc : ∀ (a y : Int32), (bd2 ((X9_conflict v kd (nI s) a).bind fun m => some (y, m)) fun x7 mu8 => (stI 258 mu8 1 ((192 + x) + nI s) x7).bind fun mu10 => some mu10) = (X9_conflict v kd (nI s) a).bind fun m => some (upm m 1 (upd (m 1) (192 + 16 * w + s) y)) := by
    intro a y
    cases X9_conflict v kd (nI s) a with
    | none => rfl
    | some m => exact fin m y
  have ho : hF (u (46 + (3 - p))) s = true → otM u p s w = (if w = 0 then v 1 (64 * (3 - p) + 16 * w + s) else nI s) := by
    intro z
    unfold otM
    by_cases h0 : w = 0
    · rw [if_pos h0, if_pos h0]
      have := hB2 z
      rw [← this, h0]
    · rw [if_neg h0, if_neg h0]
  unfold vlM s2M dsM othF
  cases h1 : hF (u (46 + p)) s
  · have h2 : hF (u (46 + (3 - p))) s = true := by
      rcases hI with z | z
      · rw [z] at h1; cases h1
      · exact z
    rw [hB2 h2]
    exact fin v _
  · rw [hA h1]
    cases h2 : hF (u (46 + (3 - p))) s
    · exact fin v _
    · rw [hB2 h2, ho h2]
      generalize v 1 (64 * (3 - p) + 16 * w + s) = B
      generalize v 1 (64 * p + 16 * w + s) = A
      cases h3 : hF (u 46) s
      · by_cases e : A = B
        · rw [if_neg bt_t, if_neg bt_t, if_pos e]
          simp only [e, ne_eq, not_true_eq_false, decide_false, Bool.and_false, Bool.false_and, Bool.false_eq_true, if_false, Bool.not_true, Bool.or_false, ob_some]
          exact fin v _
        · rw [if_neg bt_t, if_neg bt_t, if_neg e, if_pos bt_f, if_pos bt_f]
          simp only [e, ne_eq, not_false_eq_true, decide_true, Bool.true_and, Bool.not_false, Bool.true_or, if_true, Bool.not_true, Bool.false_and, Bool.and_false, Bool.or_false, Bool.false_eq_true, if_false]
          exact fc _ _
      · rw [hC h3]
        generalize v 1 (16 * w + s) = C
        by_cases e : A = B
        · rw [if_neg bt_t, if_neg bt_t, if_pos e]
          subst e
          simp only [ne_eq, not_true_eq_false, decide_false, Bool.and_false, Bool.false_and, Bool.false_eq_true, if_false, ite_self, ob_some]
          exact fin v _
        · rw [if_neg bt_t, if_neg bt_t, if_neg e, if_neg bt_t]
          by_cases e2 : A = C
          · rw [if_pos e2]
            simp only [e2, ne_eq, not_true_eq_false, decide_false, Bool.false_and, Bool.and_false, Bool.not_false, Bool.and_true, Bool.not_true, Bool.or_true, Bool.or_self, Bool.false_or, Bool.false_eq_true, if_false, if_true, ob_some]
            exact fin v _
          · rw [if_neg e2, if_neg bt_t]
            by_cases e3 : B = C
            · rw [if_pos e3]
              simp only [e2, e3, ne_eq, not_true_eq_false, not_false_eq_true, decide_true, decide_false, Bool.false_and, Bool.and_false, Bool.not_false, Bool.and_true, Bool.not_true, Bool.or_true, Bool.or_self, Bool.false_or, Bool.false_eq_true, if_false, if_true, ob_some]
              exact fin v _
            · rw [if_neg e3]
              simp only [e, e2, e3, ne_eq, not_true_eq_false, not_false_eq_true, decide_true, decide_false, Bool.false_and, Bool.and_false, Bool.not_false, Bool.and_true, Bool.not_true, Bool.or_true, Bool.or_self, Bool.false_or, Bool.false_eq_true, if_false, if_true]
              exact fc _ _
