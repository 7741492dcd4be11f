/-! ===== PHASE B: THE TEXT is read alike ===== -/
/-- order j that was read: letter, and its numbers -/
def OrdOK (u v : Mem) (F : Nat → Nat) (j : Nat) : Prop := ∃ c w, c < 128 ∧ X9_wantsOf (nI c) = some (nI w) ∧ w ≤ 5 ∧ u 79 (6 * j) = nI c ∧ v 7 j = nI c ∧ F (j + 1) = F j + w ∧ ∀ i, i < w → u 79 (6 * j + 1 + i) = v 9 (F j + i)
def PSc (u v : Mem) (k m : Nat) (F : Nat → Nat) : Prop := u 77 4 = 0 ∧ v 0 19 = 0 ∧ u 77 7 = 0 ∧ 2 * m ≤ k ∧ F m ≤ k
def PSo (u v : Mem) (k m : Nat) (F : Nat → Nat) (c w g fg : Nat) : Prop := u 77 4 = 1 ∧ v 0 19 = nI c ∧ 0 < c ∧ c < 128 ∧ X9_wantsOf (nI c) = some (nI w) ∧ w ≤ 5 ∧ u 77 5 = nI w ∧ u 77 6 = nI g ∧ v 0 20 = nI g ∧ g ≤ w ∧ u 77 7 = nI fg ∧ v 0 21 = nI fg ∧ fg ≤ 2 ∧ (0 < fg → 0 < g) ∧ u 79 (6 * m) = nI c ∧ v 7 m = nI c ∧ (∀ i, i < g → u 79 (6 * m + 1 + i) = v 9 (F m + i)) ∧ 2 * m + 1 ≤ k ∧ F m + g ≤ k
def PS (u v : Mem) (k : Nat) : Prop := ∃ m F, u 77 3 = nI m ∧ v 0 11 = nI m ∧ F 0 = 0 ∧ (∀ j, j ≤ m → v 8 j = nI (F j)) ∧ (∀ j, j < m → OrdOK u v F j) ∧ (PSc u v k m F ∨ ∃ c w g fg, PSo u v k m F c w g fg)
/-- what reading may write -/
def FT (u u' : Mem) : Prop := (∀ i, i ≠ 77 → i ≠ 79 → u' i = u i) ∧ u' 77 2 = u 77 2
def FR (v v' : Mem) : Prop := (∀ i, i ≠ 0 → i ≠ 7 → i ≠ 8 → i ≠ 9 → v' i = v i) ∧ ∀ i, i ≠ 11 → i ≠ 19 → i ≠ 20 → i ≠ 21 → v' 0 i = v 0 i
theorem FT.rf {u : Mem} : FT u u := ⟨fun _ _ _ => rfl, rfl⟩
theorem FR.rf {v : Mem} : FR v v := ⟨fun _ _ _ _ _ => rfl, fun _ _ _ _ _ => rfl⟩
theorem FT.tr {u u' u'' : Mem} (h1 : FT u u') (h2 : FT u' u'') : FT u u'' := ⟨fun i a b => by rw [h2.1 i a b, h1.1 i a b], by rw [h2.2, h1.2]⟩
theorem FR.tr {u u' u'' : Mem} (h1 : FR u u') (h2 : FR u' u'') : FR u u'' := ⟨fun i a b c d => by rw [h2.1 i a b c d, h1.1 i a b c d], fun i a b c d => by rw [h2.2 i a b c d, h1.2 i a b c d]⟩
theorem wants_le {c : Int32} {w : Nat} (hw : w < 2147483648) (h : X9_wantsOf c = some (nI w)) : w ≤ 5 := by
  unfold X9_wantsOf at h
  have key : ∀ n : Nat, n ≤ 5 → some (nI n) = some (nI w) → w ≤ 5 := by
    intro n hn e
    have := i_inj (by omega) hw (Option.some.inj e)
    omega
  split at h
  · exact key 5 (by decide) h
  split at h
  · exact key 2 (by decide) h
  split at h
  · exact key 3 (by decide) h
  split at h
  · exact key 0 (by decide) h
  split at h
  · exact key 4 (by decide) h
  split at h
  · exact key 1 (by decide) h
  split at h
  · exact key 3 (by decide) h
  · exact absurd (Option.some.inj h).symm (i_m1 hw)
theorem wants_cases (c : Int32) : X9_wantsOf c = some (-1) ∨ ∃ w, w ≤ 5 ∧ X9_wantsOf c = some (nI w) := by
  unfold X9_wantsOf
  split
  · exact Or.inr ⟨5, by decide, rfl⟩
  split
  · exact Or.inr ⟨2, by decide, rfl⟩
  split
  · exact Or.inr ⟨3, by decide, rfl⟩
  split
  · exact Or.inr ⟨0, by decide, rfl⟩
  split
  · exact Or.inr ⟨4, by decide, rfl⟩
  split
  · exact Or.inr ⟨1, by decide, rfl⟩
  split
  · exact Or.inr ⟨3, by decide, rfl⟩
  · exact Or.inl rfl
theorem F_mono {u v : Mem} {F : Nat → Nat} {m : Nat} (h : ∀ j, j < m → OrdOK u v F j) : ∀ d j, j + d ≤ m → F j ≤ F (j + d)
  | 0, j, _ => Nat.le_refl _
  | d + 1, j, hd => by
    have h1 := F_mono h d j (by omega)
    obtain ⟨c, w, -, -, -, -, -, e, -⟩ := h (j + d) (by omega)
    rw [show j + (d + 1) = j + d + 1 by omega, e]
    omega
/-- orders read before stay, if only later cells are written -/
theorem Ord_keep {u v u' v' : Mem} {F F' : Nat → Nat} {m j : Nat} (hm : ∀ j, j < m → OrdOK u v F j) (hj : j < m) (hF : ∀ j, j ≤ m → F' j = F j) (h79 : ∀ i, i < 6 * m → u' 79 i = u 79 i) (h7 : ∀ i, i < m → v' 7 i = v 7 i) (h9 : ∀ i, i < F m → v' 9 i = v 9 i) : OrdOK u' v' F' j := by
  obtain ⟨c, w, a1, a2, a3, a4, a5, a6, a7⟩ := hm j hj
  have hle := F_mono hm (m - (j + 1)) (j + 1) (by omega)
  rw [show j + 1 + (m - (j + 1)) = m by omega] at hle
  refine ⟨c, w, a1, a2, a3, by rw [h79 _ (by omega)]; exact a4, by rw [h7 j hj]; exact a5, by rw [hF _ (by omega), hF _ (by omega)]; exact a6, fun i hi => ?_⟩
  rw [h79 _ (by omega), hF j (by omega), h9 _ (by omega)]
  exact a7 i hi
theorem isCell_ok {m j : Nat} {x y : Int32} (hx : x = nI m) (hy : y = nI j) (hm : m < 75) (hj : j < 6) : X7_isCell x y = some true := by
  subst hx; subst hy
  unfold X7_isCell
  rw [if_neg (i_nn (by omega)), if_neg (by rw [nle_75 (by omega)]; omega), if_neg (i_nn (by omega)), if_neg (by rw [nle_6 (by omega)]; omega)]
theorem tput_ok {u : Mem} {m j : Nat} {x y z : Int32} (hx : x = nI m) (hy : y = nI j) (hm : m < 75) (hj : j < 6) : X7_put u x y z = some (upm u 79 (upd (u 79) (6 * m + j) z)) := by
  unfold X7_put
  rw [isCell_ok hx hy hm hj, ob_some, if_neg bt_t, hx, hy, nmr_6, i_add, stI_ok (by omega) (by decide), ob_some, Nat.mul_comm]
theorem tcell_ok {u : Mem} {m j : Nat} {x y : Int32} (hx : x = nI m) (hy : y = nI j) (hm : m < 75) (hj : j < 6) : X7_cell u x y = some (u 79 (6 * m + j)) := by
  unfold X7_cell
  rw [isCell_ok hx hy hm hj, ob_some, if_neg bt_t, hx, hy, nmr_6, i_add, rd_ok (by omega) (by decide), ob_some, Nat.mul_comm]
/-- what one byte does -/
def Tk (u v : Mem) (k : Nat) (cx cy : Option (Bool × Mem)) : Prop := ∃ b u' v', cx = some (b, u') ∧ cy = some (b, v') ∧ FT u u' ∧ FR v v' ∧ (b = true → PS u' v' (k + 1))
theorem numbersOf_eq (c : Int32) : X7_numbersOf c = X9_wantsOf c := rfl
theorem s77 {u : Mem} {a b : Nat} {x : Int32} (h : b ≠ a) : upf u 77 a x 77 b = u 77 b := by unfold upf; rw [upm_same, upd_n _ _ h]
theorem e77 {u : Mem} {a : Nat} {x : Int32} : upf u 77 a x 77 a = x := by unfold upf; rw [upm_same, upd_s]
theorem n77 {u : Mem} {a i : Nat} {x : Int32} (h : i ≠ 77) : upf u 77 a x i = u i := by unfold upf; rw [upm_ne _ _ h]
theorem s00 {u : Mem} {a b : Nat} {x : Int32} (h : b ≠ a) : upf u 0 a x 0 b = u 0 b := by unfold upf; rw [upm_same, upd_n _ _ h]
theorem e00 {u : Mem} {a : Nat} {x : Int32} : upf u 0 a x 0 a = x := by unfold upf; rw [upm_same, upd_s]
theorem n00 {u : Mem} {a i : Nat} {x : Int32} (h : i ≠ 0) : upf u 0 a x i = u i := by unfold upf; rw [upm_ne _ _ h]
theorem FT.f {u : Mem} {a : Nat} {x : Int32} (h : a ≠ 2) : FT u (upf u 77 a x) := ⟨fun i h1 _ => n77 h1, s77 (Ne.symm h)⟩
theorem FT.p {u : Mem} {r : Nat → Int32} : FT u (upm u 79 r) := ⟨fun i _ h2 => upm_ne _ _ h2, by rw [upm_ne _ _ (by decide)]⟩
theorem FR.f {v : Mem} {a : Nat} {x : Int32} (h : a = 11 ∨ a = 19 ∨ a = 20 ∨ a = 21) : FR v (upf v 0 a x) := ⟨fun i h1 _ _ _ => n00 h1, fun i h1 h2 h3 h4 => s00 (by omega)⟩
theorem FR.p {v : Mem} {a : Nat} {r : Nat → Int32} (h : a = 7 ∨ a = 8 ∨ a = 9) : FR v (upm v a r) := ⟨fun i _ h2 h3 h4 => upm_ne _ _ (by omega), fun i _ _ _ _ => by rw [upm_ne _ _ (by omega)]⟩
theorem take_open {u v : Mem} {k m : Nat} {F : Nat → Nat} {ch : Nat} (hch : ch < 128) (hk : k < 150) (h1 : u 77 3 = nI m) (h2 : v 0 11 = nI m) (h0 : F 0 = 0) (h3 : ∀ j, j ≤ m → v 8 j = nI (F j)) (h4 : ∀ j, j < m → OrdOK u v F j) (h : PSc u v k m F) : Tk u v k (X7_takes u (nI ch)) (X9_readByte v (nI ch)) := by
  obtain ⟨o1, o2, o3, o4, o5⟩ := h
  unfold X7_takes X9_readByte stF
  rw [if_pos o2, o1]
  by_cases e32 : ch = 32
  · subst e32
    rw [if_pos (by decide), if_pos (by decide), ob_some, ob_some, ob_some, ob_some, ob_some]
    have e11 : upf (upf (upf v 0 19 0) 0 20 0) 0 21 0 0 11 = nI m := by rw [s00 (by decide), s00 (by decide), s00 (by decide)]; exact h2
    rw [e11, stI_ok (by omega) (by decide), ob_some, if_pos (by decide)]
    refine ⟨true, _, _, rfl, rfl, FT.f (by decide), (((FR.f (by omega)).tr (FR.f (by omega))).tr (FR.f (by omega))).tr (FR.p (by omega)), fun _ => ?_⟩
    refine ⟨m, F, by rw [s77 (by decide)]; exact h1, by rw [upm_ne _ _ (by decide)]; exact e11, h0, fun j hj => by rw [upm_ne _ _ (by decide), n00 (by decide), n00 (by decide), n00 (by decide)]; exact h3 j hj, fun j hj => ?_, Or.inl ⟨by rw [s77 (by decide)]; exact o1, ?_, e77, by omega, by omega⟩⟩
    · refine Ord_keep h4 hj (fun _ _ => rfl) (fun i _ => by rw [n77 (by decide)]) (fun i hi => ?_) (fun i _ => by rw [upm_ne _ _ (by decide), n00 (by decide), n00 (by decide), n00 (by decide)])
      rw [upm_same, upd_n _ _ (by omega), n00 (by decide), n00 (by decide), n00 (by decide)]
    · rw [upm_ne _ _ (by decide), s00 (by decide), s00 (by decide), e00]
  · have n32 : ¬ nI ch = 32 := by rw [neq_32 (by omega)]; exact e32
    rw [if_neg n32, if_pos rfl, if_neg n32, ob_some, ob_some, ob_some, ob_some]
    have e11 : upf (upf (upf v 0 19 (nI ch)) 0 20 0) 0 21 0 0 11 = nI m := by rw [s00 (by decide), s00 (by decide), s00 (by decide)]; exact h2
    rw [e11, stI_ok (by omega) (by decide), ob_some, if_neg n32]
    unfold X7_opens stF
    rw [numbersOf_eq]
    rcases wants_cases (nI ch) with hw | ⟨w, hw5, hw⟩
    · rw [hw, ob_some, if_pos rfl, ob_2, ob_some, if_pos rfl]
      exact ⟨false, _, _, rfl, rfl, FT.rf, (((FR.f (by omega)).tr (FR.f (by omega))).tr (FR.f (by omega))).tr (FR.p (by omega)), fun e => by cases e⟩
    · rw [hw, ob_some, if_neg (i_m1 (by omega)), ob_some, ob_some, ob_some, ob_some, if_neg (i_m1 (by omega))]
      have m3 : upf (upf (upf u 77 4 1) 77 5 (nI w)) 77 6 0 77 3 = nI m := by rw [s77 (by decide), s77 (by decide), s77 (by decide)]; exact h1
      rw [tput_ok (y := 0) (j := 0) m3 rfl (by omega) (by decide), ob_some, ob_2]
      refine ⟨true, _, _, rfl, rfl, (((FT.f (by decide)).tr (FT.f (by decide))).tr (FT.f (by decide))).tr FT.p, (((FR.f (by omega)).tr (FR.f (by omega))).tr (FR.f (by omega))).tr (FR.p (by omega)), fun _ => ?_⟩
      have hch0 : 0 < ch := by
        rcases Nat.eq_zero_or_pos ch with e | e
        · subst e
          have : X9_wantsOf (nI 0) = some (-1) := by decide
          rw [this] at hw
          exact absurd (Option.some.inj hw).symm (i_m1 (by omega))
        · exact e
      refine ⟨m, F, by rw [upm_ne _ _ (by decide)]; exact m3, by rw [upm_ne _ _ (by decide)]; exact e11, h0, fun j hj => by rw [upm_ne _ _ (by decide), n00 (by decide), n00 (by decide), n00 (by decide)]; exact h3 j hj, fun j hj => ?_, Or.inr ⟨ch, w, 0, 0, ?_, ?_, hch0, hch, hw, hw5, ?_, ?_, ?_, by omega, ?_, ?_, by omega, by omega, ?_, ?_, fun i hi => by omega, by omega, by omega⟩⟩
      · refine Ord_keep h4 hj (fun _ _ => rfl) (fun i hi => ?_) (fun i hi => ?_) (fun i _ => by rw [upm_ne _ _ (by decide), n00 (by decide), n00 (by decide), n00 (by decide)])
        · rw [upm_same, upd_n _ _ (by omega), n77 (by decide), n77 (by decide), n77 (by decide)]
        · rw [upm_same, upd_n _ _ (by omega), n00 (by decide), n00 (by decide), n00 (by decide)]
      · rw [upm_ne _ _ (by decide), s77 (by decide), s77 (by decide), e77]
      · rw [upm_ne _ _ (by decide), s00 (by decide), s00 (by decide), e00]
      · rw [upm_ne _ _ (by decide), s77 (by decide), e77]
      · rw [upm_ne _ _ (by decide), e77]; rfl
      · rw [upm_ne _ _ (by decide), s00 (by decide), e00]; rfl
      · rw [upm_ne _ _ (by decide), s77 (by decide), s77 (by decide), s77 (by decide), o3]; rfl
      · rw [upm_ne _ _ (by decide), e00]; rfl
      · rw [upm_same, Nat.add_zero, upd_s]
      · rw [upm_same, upd_s]
