/-! ===== PHASE B: merging. What both see: base, sides, the preferred one ===== -/
def MB (u v : Mem) (p : Nat) : Prop := (∀ o, o < 3 → RR (u (46 + o)) (v 1) (64 * o) ∧ Val (u (46 + o))) ∧ (p = 1 ∨ p = 2) ∧ u 57 3 = nI p ∧ v 1 256 = nI p
/-- the conflicts told so far -/
def MC (u v : Mem) (n : Nat) : Prop := u 64 3 = nI n ∧ v 0 13 = nI n ∧ ∀ k, k < n → u 65 k = v 10 (3 * k) ∧ u 66 k = v 10 (3 * k + 1) ∧ u 67 k = v 10 (3 * k + 2)
/-- what merging may write -/
def FM (u u' : Mem) : Prop := ∀ i, i ≠ 49 → i ≠ 62 → i ≠ 63 → i ≠ 64 → i ≠ 65 → i ≠ 66 → i ≠ 67 → u' i = u i
def FN (v v' : Mem) : Prop := (∀ i, i ≠ 0 → i ≠ 1 → i ≠ 10 → v' i = v i) ∧ (∀ i, i ≠ 13 → v' 0 i = v 0 i) ∧ ∀ i, i < 192 ∨ 256 ≤ i → v' 1 i = v 1 i
theorem FM.rf {u : Mem} : FM u u := fun _ _ _ _ _ _ _ _ => rfl
theorem FN.rf {v : Mem} : FN v v := ⟨fun _ _ _ _ => rfl, fun _ _ => rfl, fun _ _ => rfl⟩
theorem FM.tr {u u' u'' : Mem} (h1 : FM u u') (h2 : FM u' u'') : FM u u'' := fun i a b c d e f g => by rw [h2 i a b c d e f g, h1 i a b c d e f g]
theorem FN.tr {u u' u'' : Mem} (h1 : FN u u') (h2 : FN u' u'') : FN u u'' := ⟨fun i a b c => by rw [h2.1 i a b c, h1.1 i a b c], fun i a => by rw [h2.2.1 i a, h1.2.1 i a], fun i a => by rw [h2.2.2 i a, h1.2.2 i a]⟩
theorem MB.keep {u v u' v' : Mem} {p : Nat} (h : MB u v p) (h1 : FM u u') (h2 : FN v v') : MB u' v' p := by
  obtain ⟨a, b, c, d⟩ := h
  have hu : ∀ i, (i = 46 ∨ i = 47 ∨ i = 48 ∨ i = 57) → u' i = u i := fun i hi => h1 i (by omega) (by omega) (by omega) (by omega) (by omega) (by omega) (by omega)
  refine ⟨fun o ho => ?_, b, by rw [hu 57 (by omega)]; exact c, by rw [h2.2.2 256 (by omega)]; exact d⟩
  rw [hu (46 + o) (by omega)]
  exact ⟨rr_keep (a o ho).1 (fun i q1 q2 => h2.2.2 i (by omega)), (a o ho).2⟩
theorem FM.p49 {u : Mem} {f : Nat → Int32} : FM u (upm u 49 f) := fun i a _ _ _ _ _ _ => upm_ne _ _ a
theorem FN.p1 {v : Mem} {i : Nat} {x : Int32} (h : 192 ≤ i ∧ i < 256) : FN v (upm v 1 (upd (v 1) i x)) := ⟨fun j _ b _ => upm_ne _ _ b, fun j _ => by rw [upm_ne _ _ (by decide)], fun j hj => by rw [upm_same, upd_n _ _ (by omega)]⟩
theorem lenT0 : lenT 0 = 128 := rfl
theorem MC.keep {u v u' v' : Mem} {n : Nat} (h : MC u v n) (h64 : u' 64 = u 64) (h65 : u' 65 = u 65) (h66 : u' 66 = u 66) (h67 : u' 67 = u 67) (h0 : v' 0 13 = v 0 13) (h10 : v' 10 = v 10) : MC u' v' n := by
  unfold MC
  rw [h64, h65, h66, h67, h0, h10]
  exact h
/-- one more conflict on both sides -/
theorem tell_ok {u v : Mem} {n : Nat} (hn : n < 120) (h : MC u v n) (a b c : Int32) : ∃ u' v', X6_tell u 0 a b c = some u' ∧ X9_conflict v a b c = some v' ∧ MC u' v' (n + 1) ∧ (∀ i, i ≠ 64 → i ≠ 65 → i ≠ 66 → i ≠ 67 → u' i = u i) ∧ (∀ i, i ≠ 0 → i ≠ 10 → v' i = v i) ∧ ∀ i, i ≠ 13 → v' 0 i = v 0 i := by
  obtain ⟨h1, h2, h3⟩ := h
  unfold X6_tell X9_conflict stF
  simp only [Nat.mul_zero, Nat.add_zero]
  have z : ¬ Int32.ofNat (lenT 0) ≤ nI n := by
    show ¬ nI 128 ≤ nI n
    rw [c_le (by omega) (by omega)]; omega
  rw [h1, if_neg (i_nn (by omega)), if_neg z, if_neg z, if_neg z, stI_ok (show n < lenT 0 by rw [lenT0]; omega) (by decide), ob_some]
  have e1 : upm u (64 + 1) (upd (u (64 + 1)) n a) 64 3 = nI n := by rw [upm_ne _ _ (by decide)]; exact h1
  rw [e1, stI_ok (show n < lenT 0 by rw [lenT0]; omega) (by decide), ob_some]
  have e2 : ∀ r, upm (upm u (64 + 1) (upd (u (64 + 1)) n a)) (64 + 2) r 64 3 = nI n := fun r => by rw [upm_ne _ _ (by decide)]; exact e1
  rw [e2, stI_ok (show n < lenT 0 by rw [lenT0]; omega) (by decide), ob_some, ob_some]
  rw [h2, nml_3, stI_ok (by omega) (by decide), ob_some]
  have f1 : ∀ r, upm v 10 r 0 13 = nI n := fun r => by rw [upm_ne _ _ (by decide)]; exact h2
  rw [f1, nml_3, nar_1, stI_ok (by omega) (by decide), ob_some, upm_same, upm_upm, f1, nml_3, nar_2, stI_ok (by omega) (by decide), ob_some, upm_same, upm_upm, ob_some]
  refine ⟨_, _, rfl, rfl, ⟨?_, ?_, fun k hk => ?_⟩, fun i x1 x2 x3 x4 => ?_, fun i x1 x2 => ?_, fun i x1 => ?_⟩
  · unfold upf
    rw [upm_same, upd_s, upm_ne _ _ (by decide), upm_ne _ _ (by decide), upm_ne _ _ (by decide), h1, nar_1]
  · unfold upf
    rw [upm_same, upd_s, f1, nar_1]
  · have q : ∀ (w : Mem) (i j : Nat) (r : Nat → Int32), upm w i r j = if j = i then r else w j := fun _ _ _ _ => rfl
    simp only [upf, q, Nat.reduceAdd, Nat.reduceEqDiff, if_true, if_false]
    by_cases e : k = n
    · subst e
      rw [upd_s, upd_s, upd_s, upd_s, upd_n _ _ (show 3 * k ≠ 3 * k + 2 by omega), upd_n _ _ (show 3 * k ≠ 3 * k + 1 by omega), upd_s, upd_n _ _ (show 3 * k + 1 ≠ 3 * k + 2 by omega), upd_s]
      exact ⟨rfl, rfl, rfl⟩
    · rw [upd_n _ _ e, upd_n _ _ e, upd_n _ _ e, upd_n _ _ (show 3 * k ≠ 3 * n + 2 by omega), upd_n _ _ (show 3 * k ≠ 3 * n + 1 by omega), upd_n _ _ (show 3 * k ≠ 3 * n by omega), upd_n _ _ (show 3 * k + 1 ≠ 3 * n + 2 by omega), upd_n _ _ (show 3 * k + 1 ≠ 3 * n + 1 by omega), upd_n _ _ (show 3 * k + 1 ≠ 3 * n by omega), upd_n _ _ (show 3 * k + 2 ≠ 3 * n + 2 by omega), upd_n _ _ (show 3 * k + 2 ≠ 3 * n + 1 by omega), upd_n _ _ (show 3 * k + 2 ≠ 3 * n by omega)]
      exact h3 k (by omega)
  · unfold upf
    rw [upm_ne _ _ x1, upm_ne _ _ x4, upm_ne _ _ x3, upm_ne _ _ x2]
  · unfold upf
    rw [upm_ne _ _ x1, upm_ne _ _ x2]
  · unfold upf
    rw [upm_same, upd_n _ _ x1, upm_ne _ _ (by decide)]
theorem FM.tell {u u' : Mem} (h : ∀ i, i ≠ 64 → i ≠ 65 → i ≠ 66 → i ≠ 67 → u' i = u i) : FM u u' := fun i _ _ _ d e f g => h i d e f g
theorem FN.tell {v v' : Mem} (h : ∀ i, i ≠ 0 → i ≠ 10 → v' i = v i) (h2 : ∀ i, i ≠ 13 → v' 0 i = v 0 i) : FN v v' := ⟨fun i a _ c => h i a c, h2, fun i _ => by rw [h 1 (by decide) (by decide)]⟩
/-! whether a side changed a section -/
def othF (f g : Nat → Int32) (s w : Nat) : Bool := decide (trF f s w ≠ trF g s w)
theorem isOther_ok {u : Mem} {s w j : Nat} {x : Int32} (hs : s < 16) (hw : w < 5) (hx : x = nI w) : X3_isOther u (nI s) j x = some (othF (u (25 + j)) (u 46) s w) := by
  subst hx
  unfold X3_isOther othF
  rw [trait_ok hs hw, ob_some, trait_ok hs hw, ob_some]
  by_cases h : trF (u (25 + j)) s w = trF (u 46) s w
  · rw [if_pos h]; simp [h]
  · rw [if_neg h]; simp [h]
/-- a child there that is none of it in the base, below n -/
def ncF (f b : Nat → Int32) (p : Int32) (n : Nat) : Bool := match n with
  | 0 => false
  | n + 1 => ncF f b p n || (chF f n p && !chF b n p)
theorem ncF_mono {f b : Nat → Int32} {p : Int32} : ∀ (d n : Nat), ncF f b p n = true → ncF f b p (n + d) = true
  | 0, n, h => h
  | d + 1, n, h => by
    show (ncF f b p (n + d) || _) = true
    rw [ncF_mono d n h]
    rfl
theorem hasNewChild_ok {u : Mem} {j : Nat} {p : Int32} : X3_hasNewChild u p j = some (ncF (u (25 + j)) (u 46) p 16) := by
  unfold X3_hasNewChild
  obtain ⟨r, h, hr⟩ := lp_fu (fun n (_ : Unit) z => X3_hasNewChild_L2 p j u n z) 1 16 (fun k _ => ncF (u (25 + j)) (u 46) p k = false) (fun r => r = ncF (u (25 + j)) (u 46) p 16) () (by decide) (by decide) (by
      show (ncF (u (25 + j)) (u 46) p 0 || (chF (u (25 + j)) 0 p && !chF (u 46) 0 p)) = false
      simp [ncF, chF])
    (fun n _ h => ⟨false, by rw [X3_hasNewChild_L2, if_pos (by decide)], h.symm⟩)
    (fun n _ k hk h => by
      have e : ncF (u (25 + j)) (u 46) p (k + 1) = (ncF (u (25 + j)) (u 46) p k || (chF (u (25 + j)) k p && !chF (u 46) k p)) := rfl
      rw [h] at e
      rw [X3_hasNewChild_L2, if_neg (by rw [nle_16 (by omega)]; omega), isChild_ok hk, ob_some, nar_1]
      cases h1 : chF (u (25 + j)) k p
      · rw [if_pos bt_f]
        left
        exact ⟨(), by rw [e, h1]; rfl, rfl⟩
      · rw [if_neg bt_t, isChild_ok hk, ob_some]
        cases h2 : chF (u 46) k p
        · rw [if_pos bt_f]
          right
          refine ⟨true, rfl, ?_⟩
          have : ncF (u (25 + j)) (u 46) p (k + 1) = true := by rw [e, h1, h2]; rfl
          have h3 := ncF_mono (16 - (k + 1)) (k + 1) this
          rw [show k + 1 + (16 - (k + 1)) = 16 by omega] at h3
          exact h3.symm
        · rw [if_neg bt_t]
          left
          exact ⟨(), by rw [e, h1, h2]; rfl, rfl⟩)
  show X3_hasNewChild_L2 p j u fu (nI 1) = _
  rw [h, hr]
def chgF (f b : Nat → Int32) (s : Nat) : Bool := hF b s && (hF f s && (othF f b s 2 || (othF f b s 3 || (othF f b s 0 || ncF f b (nI s) 16))))
theorem isChanged_ok {u : Mem} {s j : Nat} (hs : s < 16) : X3_isChanged u (nI s) j = some (chgF (u (25 + j)) (u 46) s) := by
  unfold X3_isChanged chgF
  rw [holds_ok hs, ob_some]
  cases h1 : hF (u 46) s
  · rw [if_pos bt_f]; rfl
  rw [if_neg bt_t, holds_ok hs, ob_some]
  cases h2 : hF (u (25 + j)) s
  · rw [if_pos bt_f]; rfl
  rw [if_neg bt_t, isOther_ok (x := 2) (w := 2) hs (by decide) rfl, ob_some]
  cases h3 : othF (u (25 + j)) (u 46) s 2
  · rw [if_pos bt_f, isOther_ok (x := 3) (w := 3) hs (by decide) rfl, ob_some]
    cases h4 : othF (u (25 + j)) (u 46) s 3
    · rw [if_pos bt_f, isOther_ok (x := 0) (w := 0) hs (by decide) rfl, ob_some]
      cases h5 : othF (u (25 + j)) (u 46) s 0
      · rw [if_pos bt_f, hasNewChild_ok, ob_some]
        cases h6 : ncF (u (25 + j)) (u 46) (nI s) 16
        · rw [if_pos bt_f]; rfl
        · rw [if_neg bt_t]; rfl
      · rw [if_neg bt_t]; rfl
    · rw [if_neg bt_t]; rfl
  · rw [if_neg bt_t]; rfl
theorem rIsChanged {v : Mem} {f b : Nat → Int32} {x : Int32} {o s : Nat} (hx : x = nI o) (ho : o < 4) (hs : s < 16) (hR : RR f (v 1) (64 * o)) (hB : RR b (v 1) 0) (hb : hF b s = true) (hf : hF f s = true) : X9_isChanged v x (nI s) = some (othF f b s 2 || (othF f b s 3 || (othF f b s 0 || ncF f b (nI s) 16))) := by
  unfold X9_isChanged
  obtain ⟨-, -, a1, -, a3, a4⟩ := rr_yes hR hs hf
  obtain ⟨-, -, b1, -, b3, b4⟩ := rr_yes hB hs hb
  rw [Nat.zero_add] at b1
  rw [show 0 + 32 + s = 64 * 0 + 32 + s by omega] at b3
  rw [show 0 + 48 + s = 64 * 0 + 48 + s by omega] at b4
  have e0 : othF f b s 0 = decide (f s ≠ b s) := by unfold othF; rw [trF_here hf, trF_here hb]; simp
  have e2 : othF f b s 2 = decide (f (32 + s) ≠ b (32 + s)) := by unfold othF; rw [trF_here hf, trF_here hb]
  have e3 : othF f b s 3 = decide (f (48 + s) ≠ b (48 + s)) := by unfold othF; rw [trF_here hf, trF_here hb]
  have hloop : ∀ (c0 : Bool), X9_isChanged_L54 x (nI s) v fu (b2i c0) 1 = some (b2i (c0 || ncF f b (nI s) 16)) := by
    intro c0
    obtain ⟨r, h, hr⟩ := lp_fu (fun n (y : Int32) z => X9_isChanged_L54 x (nI s) v n y z) 1 16 (fun k y => y = b2i (c0 || ncF f b (nI s) k) ∧ 0 < k) (fun r => r = b2i (c0 || ncF f b (nI s) 16)) (b2i c0) (by decide) (by decide) ⟨by
        have : ncF f b (nI s) 1 = false := by
          show (ncF f b (nI s) 0 || (chF f 0 (nI s) && !chF b 0 (nI s))) = false
          simp [ncF, chF]
        rw [this]
        simp, by decide⟩
      (fun n y h => ⟨y, by rw [X9_isChanged_L54, if_pos (by decide)], h.1⟩)
      (fun n y k hk h => by
        left
        refine ⟨_, ⟨rfl, by omega⟩, ?_⟩
        have e : ncF f b (nI s) (k + 1) = (ncF f b (nI s) k || (chF f k (nI s) && !chF b k (nI s))) := rfl
        have hc := rp_cond (p := nI s) (rr_rp hR hk) h.2 (i_m9 (by omega))
        have hc2 := rp_cond (p := nI s) (rr_rp hB hk) h.2 (i_m9 (by omega))
        rw [X9_isChanged_L54, if_neg (by rw [nle_16 (by omega)]; omega), h.1, e, nar_1]
        cases h0 : (c0 || ncF f b (nI s) k)
        · have e4 : (c0 || (ncF f b (nI s) k || (chF f k (nI s) && !chF b k (nI s)))) = (chF f k (nI s) && !chF b k (nI s)) := by
            rw [← Bool.or_assoc, h0]; rfl
          rw [e4, if_pos bt_f, rPar hx rfl ho hk, ob_some]
          cases h1 : chF f k (nI s)
          · rw [if_neg (fun z => by rw [← hc, h1] at z; cases z)]; rfl
          · rw [if_pos (hc.mp h1), rPar (x := 0) (o := 0) rfl rfl (by decide) hk, ob_some]
            have hz : 64 * 0 + k = 0 + k := by omega
            rw [hz]
            cases h2 : chF b k (nI s)
            · rw [if_neg (fun z => by rw [← hc2, h2] at z; cases z)]; rfl
            · rw [if_pos (hc2.mp h2)]; rfl
        · have e4 : (c0 || (ncF f b (nI s) k || (chF f k (nI s) && !chF b k (nI s)))) = true := by
            rw [← Bool.or_assoc, h0]; rfl
          rw [e4, if_neg bt_t]; rfl)
    show X9_isChanged_L54 x (nI s) v fu (b2i c0) (nI 1) = _
    rw [h, hr]
  have fin : ∀ (c0 : Bool), ((X9_isChanged_L54 x (nI s) v fu (b2i c0) 1).bind fun x7 => (zg x7).bind fun z9 => some z9) = some (c0 || ncF f b (nI s) 16) := by
    intro c0
    rw [hloop, ob_some]
    cases (c0 || ncF f b (nI s) 16) <;> rfl
  rw [rPar hx rfl ho hs, ob_some, rPar (x := 0) (o := 0) rfl rfl (by decide) hs, ob_some, rNam hx rfl ho hs, rNam (x := 0) (o := 0) rfl rfl (by decide) hs, rTex hx rfl ho hs, rTex (x := 0) (o := 0) rfl rfl (by decide) hs, ← a1, show 64 * 0 + s = s by omega, ← b1, ← a3, ← b3, ← a4, ← b4]
  simp only [ob_some]
  by_cases h0 : f s = b s
  · rw [if_pos h0]
    by_cases h2 : f (32 + s) = b (32 + s)
    · rw [if_pos h2]
      by_cases h3 : f (48 + s) = b (48 + s)
      · rw [if_pos h3, ob_some]
        have := fin false
        rw [show b2i false = 0 from rfl] at this
        rw [this, e0, e2, e3]
        simp [h0, h2, h3]
      · rw [if_neg h3, ob_some]
        have := fin true
        rw [show b2i true = 1 from rfl] at this
        rw [this, e0, e2, e3]
        simp [h3]
    · rw [if_neg h2, ob_some]
      have := fin true
      rw [show b2i true = 1 from rfl] at this
      rw [this, e0, e2, e3]
      simp [h2]
  · rw [if_neg h0, ob_some]
    have := fin true
    rw [show b2i true = 1 from rfl] at this
    rw [this, e0, e2, e3]
    simp [h0]
