/-! ===== PHASE B: a row of the class: 0.. parents, 16.. places, 32.. names, 48.. texts, 64.. whether it is there ===== -/
theorem out_cases (x : Int32) : (x < 0 ∨ (16 : Int32) ≤ x) ∨ ∃ k, k < 16 ∧ x = nI k := by
  rcases i_cases x (n := 16) (by decide) with h | h | h
  · exact Or.inl (Or.inl h)
  · exact Or.inl (Or.inr h)
  · exact Or.inr h
def hF (f : Nat → Int32) (k : Nat) : Bool := decide (f (64 + k) = 1)
def chF (f : Nat → Int32) (s : Nat) (p : Int32) : Bool := decide (0 < s) && (hF f s && decide (f s = p))
theorem holds_ok {f : Nat → Int32} {k : Nat} (hk : k < 16) : X4_holds f (nI k) = some (hF f k) := by
  unfold X4_holds
  rw [if_neg (i_nn (by omega)), if_neg (by rw [nle_16 (by omega)]; omega), nal_64, rd_ok (by omega) (by decide), ob_some]
  unfold hF
  by_cases h : f (64 + k) = 1
  · rw [if_pos h]; simp [h]
  · rw [if_neg h]; simp [h]
theorem holds_out {f : Nat → Int32} {x : Int32} (h : x < 0 ∨ (16 : Int32) ≤ x) : X4_holds f x = some false := by
  unfold X4_holds
  rcases h with h | h
  · rw [if_pos h]
  · by_cases h2 : x < 0
    · rw [if_pos h2]
    · rw [if_neg h2, if_pos h]
theorem isChild_ok {f : Nat → Int32} {k : Nat} {p : Int32} (hk : k < 16) : X4_isChild f (nI k) p = some (chF f k p) := by
  unfold X4_isChild chF
  by_cases h0 : k = 0
  · subst h0
    rw [if_pos (by decide)]
    simp
  · rw [if_neg (by rw [nel_0 (by omega)]; omega), if_neg (by rw [nle_16 (by omega)]; omega), nal_64, rd_ok (by omega) (by decide), ob_some]
    have e0 : decide (0 < k) = true := by simp; omega
    rw [e0]
    unfold hF
    by_cases h : f (64 + k) = 1
    · rw [if_pos h, nal_0, rd_ok (by omega) (by decide), ob_some]
      by_cases h2 : f (0 + k) = p
      · rw [if_pos h2]; rw [Nat.zero_add] at h2; simp [h, h2]
      · rw [if_neg h2]; rw [Nat.zero_add] at h2; simp [h, h2]
    · rw [if_neg h]; simp [h]
/-- what a row tells of a section -/
def trF (f : Nat → Int32) (k w : Nat) : Int32 := if f (64 + k) = 0 then -1 else f (16 * w + k)
theorem trait_ok {f : Nat → Int32} {k w : Nat} (hk : k < 16) (hw : w < 5) : X4_trait f (nI k) (nI w) = some (trF f k w) := by
  unfold X4_trait trF
  rw [if_neg (i_nn (by omega)), if_neg (by rw [nle_16 (by omega)]; omega), if_neg (i_nn (by omega)), if_neg (by rw [nle_5 (by omega)]; omega), nal_64, rd_ok (by omega) (by decide), ob_some]
  by_cases h : f (64 + k) = 0
  · rw [if_pos h, if_pos h]
  · rw [if_neg h, if_neg h, nmr_16, i_add, rd_ok (by omega) (by decide), ob_some, Nat.mul_comm]
theorem trait_out {f : Nat → Int32} {x w : Int32} (h : x < 0 ∨ (16 : Int32) ≤ x) : X4_trait f x w = some (-1) := by
  unfold X4_trait
  rcases h with h | h
  · rw [if_pos h]
  · by_cases h2 : x < 0
    · rw [if_pos h2]
    · rw [if_neg h2, if_pos h]
theorem put_ok {f : Nat → Int32} {k w : Nat} {x : Int32} (hk : k < 16) (hw : w < 5) : X4_put f (nI k) (nI w) x = some (upd f (16 * w + k) x) := by
  unfold X4_put
  rw [if_neg (i_nn (by omega)), if_neg (by rw [nle_16 (by omega)]; omega), if_neg (i_nn (by omega)), if_neg (by rw [nle_5 (by omega)]; omega), nmr_16, i_add, wr_ok (by omega) (by decide), ob_some, Nat.mul_comm]
theorem include_ok {f : Nat → Int32} {k : Nat} (hk : k < 16) : X4_include f (nI k) = some (upd f (64 + k) 1) := by
  unfold X4_include
  rw [show (4 : Int32) = nI 4 from rfl, put_ok hk (by decide), ob_some]
theorem i_add0 (x : Int32) : x + 0 = x := Int32.add_zero x
theorem cstep {β : Type} (c : Bool) (m : Nat) (F : Int32 → Option β) : ((if b2i c = 0 then some (0 : Int32) else some 1).bind fun x => F (nI m + x)) = F (nI (m + if c = true then 1 else 0)) := by
  cases c
  · rw [if_pos (by rw [b2i_0]), ob_some, i_add0]; rfl
  · rw [if_neg (by rw [b2i_0]; decide), ob_some, nar_1]; rfl
theorem childCount_ok (f : Nat → Int32) (p : Int32) : X4_childCount f p = some (nI (cnt (fun s => chF f s p) 16)) := by
  unfold X4_childCount
  obtain ⟨r, h, hr⟩ := lp_fu (fun n (s : Int32) x => X4_childCount_L4 p f n s x) 0 16 (fun k s => s = nI (cnt (fun s => chF f s p) k)) (fun r => r = nI (cnt (fun s => chF f s p) 16)) 0 (by decide) (by decide) rfl
    (fun n s h => ⟨s, by rw [X4_childCount_L4, if_pos (by decide)], h⟩)
    (fun n s k hk h => Or.inl ⟨_, rfl, by
      rw [X4_childCount_L4, if_neg (by rw [nle_16 (by omega)]; omega), isChild_ok hk, ob_some, nar_1, h]
      exact cstep (chF f k p) _ (fun y => X4_childCount_L4 p f n y (nI (k + 1)))⟩)
  show (X4_childCount_L4 p f fu 0 (nI 0)).bind _ = _
  rw [h, hr]
  rfl
theorem count_ok (f : Nat → Int32) : X4_count f = some (nI (cnt (hF f) 16)) := by
  unfold X4_count
  obtain ⟨r, h, hr⟩ := lp_fu (fun n (s : Int32) x => X4_count_L4 f n s x) 0 16 (fun k s => s = nI (cnt (hF f) k)) (fun r => r = nI (cnt (hF f) 16)) 0 (by decide) (by decide) rfl
    (fun n s h => ⟨s, by rw [X4_count_L4, if_pos (by decide)], h⟩)
    (fun n s k hk h => Or.inl ⟨_, rfl, by
      rw [X4_count_L4, if_neg (by rw [nle_16 (by omega)]; omega), holds_ok hk, ob_some, nar_1, h]
      exact cstep (hF f k) _ (fun y => X4_count_L4 f n y (nI (k + 1)))⟩)
  show (X4_count_L4 f fu 0 (nI 0)).bind _ = _
  rw [h, hr]
  rfl
/-- those from a place on are further by so much -/
def shF (f : Nat → Int32) (p q d : Int32) (m : Nat) : Nat → Int32 := fun i => if 16 ≤ i ∧ i < 16 + m ∧ chF f (i - 16) p = true ∧ q ≤ trF f (i - 16) 1 then f i + d else f i
theorem shF_par {f : Nat → Int32} {p q d : Int32} {m k : Nat} (hk : k < 16) : shF f p q d m k = f k := by unfold shF; rw [if_neg]; omega
theorem shF_here {f : Nat → Int32} {p q d : Int32} {m k : Nat} (hm : m ≤ 16) (hk : 32 ≤ k) : shF f p q d m k = f k := by unfold shF; rw [if_neg]; omega
theorem shF_hF {f : Nat → Int32} {p q d : Int32} {m k : Nat} (hm : m ≤ 16) : hF (shF f p q d m) k = hF f k := by unfold hF; rw [shF_here hm (by omega)]
theorem shF_chF {f : Nat → Int32} {p q d p2 : Int32} {m k : Nat} (hm : m ≤ 16) (hk : k < 16) : chF (shF f p q d m) k p2 = chF f k p2 := by unfold chF; rw [shF_hF hm, shF_par hk]
theorem shift_ok (f : Nat → Int32) (p q d : Int32) : X4_shift f p q d = some (shF f p q d 16) := by
  unfold X4_shift
  obtain ⟨r, h, hr⟩ := lp_fu (fun n (s : Nat → Int32) x => X4_shift_L3 p q d n x s) 0 16 (fun k s => s = shF f p q d k) (fun r => r = shF f p q d 16) f (by decide) (by decide)
    (by funext i; unfold shF; rw [if_neg]; omega)
    (fun n s h => ⟨s, by rw [X4_shift_L3, if_pos (by decide)], h⟩)
    (fun n s k hk h => Or.inl ⟨_, rfl, by
      rw [X4_shift_L3, if_neg (by rw [nle_16 (by omega)]; omega), h, isChild_ok hk, ob_some, nar_1, shF_chF (by omega) hk]
      have e1 : trF (shF f p q d k) k 1 = trF f k 1 := by
        unfold trF
        rw [shF_here (by omega) (by omega)]
        split
        · rfl
        · unfold shF; rw [if_neg]; omega
      have e2 : ∀ i, i ≠ 16 + k → shF f p q d (k + 1) i = shF f p q d k i := by
        intro i hi
        unfold shF
        by_cases h1 : 16 ≤ i ∧ i < 16 + k ∧ chF f (i - 16) p = true ∧ q ≤ trF f (i - 16) 1
        · rw [if_pos h1, if_pos ⟨h1.1, by omega, h1.2.2⟩]
        · rw [if_neg h1, if_neg]
          intro h2
          exact h1 ⟨h2.1, by omega, h2.2.2⟩
      have e3 : shF f p q d k (16 + k) = f (16 + k) := by unfold shF; rw [if_neg]; omega
      cases hc : chF f k p
      · rw [if_pos (by rw [b2i_0])]
        congr 1
        funext i
        by_cases hi : i = 16 + k
        · subst hi
          rw [e3]
          unfold shF
          rw [if_neg]
          rw [show 16 + k - 16 = k by omega, hc]
          simp
        · exact (e2 i hi).symm
      · rw [if_neg (by rw [b2i_0]; decide), show (1 : Int32) = nI 1 from rfl, trait_ok hk (by decide), ob_some, e1]
        have hh : f (64 + k) = 1 := by
          unfold chF hF at hc
          simp at hc
          exact hc.2.1
        have ht : trF f k 1 = f (16 + k) := by unfold trF; rw [if_neg (by rw [hh]; decide)]
        by_cases hq : trF f k 1 < q
        · rw [if_pos hq]
          congr 1
          funext i
          by_cases hi : i = 16 + k
          · subst hi
            rw [e3]
            unfold shF
            rw [if_neg]
            rw [show 16 + k - 16 = k by omega]
            intro z
            exact absurd hq (Int32.not_lt.mpr z.2.2.2)
          · exact (e2 i hi).symm
        · rw [if_neg hq, ob_some, put_ok hk (by decide), ob_some]
          congr 1
          funext i
          by_cases hi : i = 16 + k
          · subst hi
            rw [show 16 * 1 + k = 16 + k by omega, upd_s]
            unfold shF
            rw [if_pos ⟨by omega, by omega, by rw [show 16 + k - 16 = k by omega]; exact hc, by rw [show 16 + k - 16 = k by omega]; exact Int32.not_lt.mp hq⟩, ht]
          · rw [upd_n _ _ (by omega)]
            exact (e2 i hi).symm⟩)
  show (X4_shift_L3 p q d fu (nI 0) f).bind _ = _
  rw [h, hr]
  rfl
