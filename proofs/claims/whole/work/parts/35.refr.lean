/-! ===== PHASE B: the reference's row g holds at b what the class's row f holds ===== -/
def RR (f g : Nat → Int32) (b : Nat) : Prop := ∀ k, k < 16 →
  (f (64 + k) = 1 ∧ g (b + k) ≠ -9 ∧ f k = g (b + k) ∧ f (16 + k) = g (b + 16 + k) ∧ f (32 + k) = g (b + 32 + k) ∧ f (48 + k) = g (b + 48 + k)) ∨ (f (64 + k) = 0 ∧ g (b + k) = -9)
theorem rr_h {f g : Nat → Int32} {b k : Nat} (h : RR f g b) (hk : k < 16) : decide (g (b + k) ≠ -9) = hF f k := by
  unfold hF
  rcases h k hk with ⟨h1, h2, -⟩ | ⟨h1, h2⟩
  · simp [h1, h2]
  · simp [h1, h2]
theorem rr_no {f g : Nat → Int32} {b k : Nat} (h : RR f g b) (hk : k < 16) (hh : hF f k = false) : f (64 + k) = 0 ∧ g (b + k) = -9 := by
  unfold hF at hh
  rcases h k hk with ⟨h1, h2, -⟩ | h1
  · rw [h1] at hh; simp at hh
  · exact h1
theorem rr_yes {f g : Nat → Int32} {b k : Nat} (h : RR f g b) (hk : k < 16) (hh : hF f k = true) : f (64 + k) = 1 ∧ g (b + k) ≠ -9 ∧ f k = g (b + k) ∧ f (16 + k) = g (b + 16 + k) ∧ f (32 + k) = g (b + 32 + k) ∧ f (48 + k) = g (b + 48 + k) := by
  unfold hF at hh
  rcases h k hk with h1 | ⟨h1, h2⟩
  · exact h1
  · rw [h1] at hh; simp at hh
section RF
variable {v : Mem} {x y : Int32} {o k : Nat}
theorem rIn (hx : x = nI o) (hy : y = nI k) (ho : o < 4) (hk : k < 16) : X9_isIn v x y = some (decide (v 1 (64 * o + k) ≠ -9)) := by
  subst hx; subst hy
  unfold X9_isIn
  rw [nml_64, i_add, rd_ok (by omega) (by decide), ob_some]
  by_cases h : v 1 (64 * o + k) = -9
  · rw [if_pos h]; simp [h]
  · rw [if_neg h]; simp [h]
theorem rPar (hx : x = nI o) (hy : y = nI k) (ho : o < 4) (hk : k < 16) : X9_parentOf v x y = some (v 1 (64 * o + k)) := by
  subst hx; subst hy
  unfold X9_parentOf
  rw [nml_64, i_add, rd_ok (by omega) (by decide), ob_some]
theorem rPla (hx : x = nI o) (hy : y = nI k) (ho : o < 4) (hk : k < 16) : X9_placeOf v x y = some (v 1 (64 * o + 16 + k)) := by
  subst hx; subst hy
  unfold X9_placeOf
  rw [nml_64, nar_16, i_add, rd_ok (by omega) (by decide), ob_some]
theorem rNam (hx : x = nI o) (hy : y = nI k) (ho : o < 4) (hk : k < 16) : X9_nameOf v x y = some (v 1 (64 * o + 32 + k)) := by
  subst hx; subst hy
  unfold X9_nameOf
  rw [nml_64, nar_32, i_add, rd_ok (by omega) (by decide), ob_some]
theorem rTex (hx : x = nI o) (hy : y = nI k) (ho : o < 4) (hk : k < 16) : X9_textOf v x y = some (v 1 (64 * o + 48 + k)) := by
  subst hx; subst hy
  unfold X9_textOf
  rw [nml_64, nar_48, i_add, rd_ok (by omega) (by decide), ob_some]
theorem rMany {f : Nat → Int32} (hx : x = nI o) (ho : o < 4) (hR : RR f (v 1) (64 * o)) : X9_manyIn v x = some (nI (cnt (hF f) 16)) := by
  unfold X9_manyIn
  obtain ⟨r, h, hr⟩ := lp_fu (fun n (s : Int32) y => X9_manyIn_L4 x v n s y) 0 16 (fun k s => s = nI (cnt (hF f) k)) (fun r => r = nI (cnt (hF f) 16)) 0 (by decide) (by decide) rfl
    (fun n s h => ⟨s, by rw [X9_manyIn_L4, if_pos (by decide)], h⟩)
    (fun n s k hk h => Or.inl ⟨_, rfl, by
      rw [X9_manyIn_L4, if_neg (by rw [nle_16 (by omega)]; omega), rIn hx rfl ho hk, ob_some, nar_1, h, rr_h hR hk]
      exact cstep (hF f k) _ (fun y => X9_manyIn_L4 x v n y (nI (k + 1)))⟩)
  show (X9_manyIn_L4 x v fu 0 (nI 0)).bind _ = _
  rw [h, hr]
  rfl
/-- one more where c holds -/
theorem cstepP {β : Type} (c : Prop) [Decidable c] (b : Bool) (hb : c ↔ b = true) (m : Nat) (F : Int32 → Option β) : ((if c then some (1 : Int32) else some 0).bind fun x => F (nI m + x)) = F (nI (m + if b = true then 1 else 0)) := by
  by_cases h : c
  · rw [if_pos h, if_pos (hb.mp h), ob_some, nar_1]
  · rw [if_neg h, if_neg (fun q => h (hb.mpr q)), ob_some, i_add0]; rfl
theorem rKids {f : Nat → Int32} (hx : x = nI o) (ho : o < 4) (hR : RR f (v 1) (64 * o)) (hy : y ≠ -9) : X9_childrenOf v x y = some (nI (cnt (fun s => chF f s y) 16)) := by
  unfold X9_childrenOf
  obtain ⟨r, h, hr⟩ := lp_fu (fun n (s : Int32) z => X9_childrenOf_L5 x y v n s z) 1 16 (fun k s => s = nI (cnt (fun s => chF f s y) k) ∧ 0 < k) (fun r => r = nI (cnt (fun s => chF f s y) 16)) 0 (by decide) (by decide) ⟨by simp [cnt, chF]; rfl, by decide⟩
    (fun n s h => ⟨s, by rw [X9_childrenOf_L5, if_pos (by decide)], h.1⟩)
    (fun n s k hk h => Or.inl ⟨_, ⟨rfl, by omega⟩, by
      rw [X9_childrenOf_L5, if_neg (by rw [nle_16 (by omega)]; omega), rPar hx rfl ho hk, ob_some, nar_1, h.1]
      refine cstepP _ (chF f k y) ?_ _ (fun z => X9_childrenOf_L5 x y v n z (nI (k + 1)))
      unfold chF
      rw [show decide (0 < k) = true by simp [h.2]]
      cases hh : hF f k
      · rw [(rr_no hR hk hh).2]
        simp [Ne.symm hy]
      · rw [← (rr_yes hR hk hh).2.2.1]
        simp⟩)
  show (X9_childrenOf_L5 x y v fu 0 (nI 1)).bind _ = _
  rw [h, hr]
  rfl
end RF
/-! below, as bits -/
theorem bel_step {H : Nat → Bool} {P : Nat → Nat} {j t s : Nat} : belN P (j + 1) t s = (decide (t = s) || belN P j (P t) s) := rfl
theorem below_L19 {v : Mem} {x : Int32} {o : Nat} {f : Nat → Int32} (hx : x = nI o) (ho : o < 4) (hR : RR f (v 1) (64 * o)) (hC : CloF f) {m : Nat} (hm : m < 65536) :
    X9_belowOf_L19 x v (nI m) fu (nI m) 1 = some (nI (m ||| mk (fun t => decide (0 < t) && (hF f t && m.testBit (PF f t))) 16)) := by
  obtain ⟨r, h, hr⟩ := lp_fu (fun n (s : Int32) z => X9_belowOf_L19 x v (nI m) n s z) 1 16 (fun k s => s = nI (m ||| mk (fun t => decide (0 < t) && (hF f t && m.testBit (PF f t))) k) ∧ 0 < k) (fun r => r = nI (m ||| mk (fun t => decide (0 < t) && (hF f t && m.testBit (PF f t))) 16)) (nI m) (by decide) (by decide) ⟨by simp [mk], by decide⟩
    (fun n s h => ⟨s, by rw [X9_belowOf_L19, if_pos (by decide)], h.1⟩)
    (fun n s k hk h => Or.inl ⟨_, ⟨rfl, by omega⟩, by
      rw [X9_belowOf_L19, if_neg (by rw [nle_16 (by omega)]; omega), rIn hx rfl ho hk, ob_some, nar_1, h.1, rr_h hR hk]
      have hm1 : mk (fun t => decide (0 < t) && (hF f t && m.testBit (PF f t))) (k + 1) = mk (fun t => decide (0 < t) && (hF f t && m.testBit (PF f t))) k ||| (if (hF f k && m.testBit (PF f k)) = true then 2 ^ k else 0) := by
        simp only [mk]
        simp [h.2]
      rw [hm1]
      generalize mk (fun t => decide (0 < t) && (hF f t && m.testBit (PF f t))) k = z
      cases hh : hF f k
      · rw [if_pos (by rw [b2i_0]), ob_some, show (0 : Int32) = nI 0 from rfl, nx_or]
        simp
      · obtain ⟨p1, p2, p3⟩ := hC.par h.2 hk hh
        rw [if_neg (by rw [b2i_0]; decide), rPar hx rfl ho hk, ob_some, ← (rr_yes hR hk hh).2.2.1, p1]
        by_cases hb : m.testBit (PF f k) = true
        · rw [if_pos (by rw [bt_is hm p2]; exact hb), ob_some, bt_one k hk, nx_or, Nat.or_assoc]
          simp [hb]
        · rw [if_neg (by rw [bt_is hm p2]; exact hb), ob_some, show (0 : Int32) = nI 0 from rfl, nx_or]
          simp at hb
          simp [hb]⟩)
  show X9_belowOf_L19 x v (nI m) fu (nI m) (nI 1) = _
  rw [h, hr]
/-- the set of those there from which s is reached in fewer than j + 1 steps -/
def bsN (f : Nat → Int32) (j s : Nat) : Nat := mk (fun t => hF f t && belN (PF f) (j + 1) t s) 16
theorem bsN_lt (f : Nat → Int32) (j s : Nat) : bsN f j s < 65536 := mk_lt _ 16
theorem bsN_bit (f : Nat → Int32) (j s : Nat) {t : Nat} (ht : t < 16) : (bsN f j s).testBit t = (hF f t && belN (PF f) (j + 1) t s) := by
  unfold bsN
  rw [mk_bit]
  simp [ht]
theorem bsN_next {f : Nat → Int32} (hC : CloF f) {j s : Nat} (hs : s < 16) (hh : hF f s = true) : bsN f j s ||| mk (fun t => decide (0 < t) && (hF f t && (bsN f j s).testBit (PF f t))) 16 = bsN f (j + 1) s := by
  have hlt : bsN f j s ||| mk (fun t => decide (0 < t) && (hF f t && (bsN f j s).testBit (PF f t))) 16 < 65536 := Nat.or_lt_two_pow (n := 16) (bsN_lt f j s) (mk_lt _ 16)
  refine bit_ext hlt (bsN_lt f (j + 1) s) (fun t ht => ?_)
  rw [Nat.testBit_or, mk_bit, bsN_bit f j s ht, bsN_bit f (j + 1) s ht]
  cases ht1 : hF f t
  · simp
  · by_cases h0 : t = 0
    · subst h0
      have e0 : PF f 0 = 0 := rfl
      have : ∀ n, belN (PF f) (n + 1) 0 s = decide (0 = s) := by
        intro n
        induction n with
        | zero => simp [belN]
        | succ n ih =>
          show (decide (0 = s) || belN (PF f) (n + 1) (PF f 0) s) = _
          rw [e0, ih]
          simp
      rw [this, this]
      simp
    · obtain ⟨p1, p2, p3⟩ := hC.par (by omega) ht ht1
      rw [bsN_bit f j s p2, p3]
      have e1 : decide (t < 16) = true := by simp [ht]
      have e2 : decide (0 < t) = true := by simp; omega
      rw [e1, e2]
      simp only [Bool.true_and]
      show (belN (PF f) (j + 1) t s || belN (PF f) (j + 1) (PF f t) s) = (decide (t = s) || belN (PF f) (j + 1) (PF f t) s)
      show ((decide (t = s) || belN (PF f) j (PF f t) s) || belN (PF f) (j + 1) (PF f t) s) = _
      cases hq : belN (PF f) (j + 1) (PF f t) s
      · have : belN (PF f) j (PF f t) s = false := by
          rw [← Bool.not_eq_true, belN_iff] at hq ⊢
          rintro ⟨i, h1, h2⟩
          exact hq ⟨i, by omega, h2⟩
        rw [this]
        simp
      · simp
theorem bsN_top {f : Nat → Int32} (hC : CloF f) (hA : Acy (hF f) (PF f)) {j s : Nat} (hj : 15 ≤ j) : bsN f j s = bsN f 15 s := by
  refine bit_ext (bsN_lt f j s) (bsN_lt f 15 s) (fun t ht => ?_)
  rw [bsN_bit f j s ht, bsN_bit f 15 s ht]
  cases ht1 : hF f t
  · rfl
  · simp only [Bool.true_and]
    cases hq : belN (PF f) (15 + 1) t s
    · rw [← Bool.not_eq_true] at hq ⊢
      intro h
      apply hq
      rw [bel_any hC.clo hA ht ht1]
      obtain ⟨i, -, h2⟩ := (belN_iff _ _ _ _).mp h
      exact ⟨i, h2⟩
    · obtain ⟨i, h1, h2⟩ := (belN_iff _ _ _ _).mp hq
      exact (belN_iff _ _ _ _).mpr ⟨i, by omega, h2⟩
theorem bsN_stay {f : Nat → Int32} (hC : CloF f) {j s : Nat} (hs : s < 16) (hh : hF f s = true) (h : bsN f (j + 1) s = bsN f j s) : ∀ i, bsN f (j + i) s = bsN f j s
  | 0 => rfl
  | i + 1 => by
    rw [show j + (i + 1) = (j + i) + 1 by omega, ← bsN_next hC hs hh, bsN_stay hC hs hh h i, bsN_next hC hs hh, h]
theorem below_L7 {v : Mem} {x : Int32} {o : Nat} {f : Nat → Int32} (hx : x = nI o) (ho : o < 4) (hR : RR f (v 1) (64 * o)) (hC : CloF f) (hA : Acy (hF f) (PF f)) {s : Nat} (hs : s < 16) (hh : hF f s = true) :
    ∀ c j n, j + c = 16 → c < n → X9_belowOf_L7 x v n (nI (bsN f (j + 1) s)) (nI (bsN f j s)) = some (nI (bsN f 15 s)) := by
  intro c
  induction c with
  | zero =>
    intro j n h1 h2
    cases n with
    | zero => omega
    | succ n => rw [X9_belowOf_L7, bsN_top hC hA (show 15 ≤ j + 1 by omega), bsN_top hC hA (show 15 ≤ j by omega), if_pos rfl]
  | succ c ih =>
    intro j n h1 h2
    cases n with
    | zero => omega
    | succ n =>
      rw [X9_belowOf_L7]
      by_cases e : bsN f (j + 1) s = bsN f j s
      · rw [if_pos (by rw [e]), e]
        have := bsN_stay hC hs hh e (15 - j)
        rw [show j + (15 - j) = 15 by omega] at this
        rw [this]
      · have l1 := bsN_lt f (j + 1) s
        have l2 := bsN_lt f j s
        rw [if_neg (by rw [c_eq (by omega) (by omega)]; exact e), below_L19 hx ho hR hC l1, ob_some, bsN_next hC hs hh]
        exact ih (j + 1) n (by omega) (by omega)
theorem rBel {v : Mem} {x y : Int32} {o s : Nat} {f : Nat → Int32} (hx : x = nI o) (hy : y = nI s) (ho : o < 4) (hR : RR f (v 1) (64 * o)) (hC : CloF f) (hA : Acy (hF f) (PF f)) (hs : s < 16) (hh : hF f s = true) : X9_belowOf v x y = some (nI (bsN f 15 s)) := by
  subst hy
  have e0 : (2 : Nat) ^ s = bsN f 0 s := by
    refine bit_ext (Nat.lt_of_lt_of_le (Nat.pow_lt_pow_right (by decide) hs) (by decide)) (bsN_lt f 0 s) (fun t ht => ?_)
    rw [bsN_bit f 0 s ht, Nat.testBit_two_pow]
    simp only [belN, Bool.or_false]
    by_cases e : s = t
    · subst e; simp [hh]
    · simp [e, Ne.symm e]
  have p0 : (2 : Nat) ^ s < 65536 := by rw [e0]; exact bsN_lt f 0 s
  unfold X9_belowOf
  rw [bt_one s hs, e0, fu_big, X9_belowOf_L7, if_neg (by
    rw [← e0, neq_0 (by omega)]
    have := Nat.two_pow_pos s
    omega), below_L19 hx ho hR hC (bsN_lt f 0 s), ob_some, bsN_next hC hs hh, below_L7 hx ho hR hC hA hs hh 16 0 4095 rfl (by decide), ob_some]
