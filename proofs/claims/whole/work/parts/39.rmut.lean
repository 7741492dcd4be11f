/-! ===== PHASE B: the reference's hanging, unhanging, deleting; the rows stay alike ===== -/
def puG (g : Nat → Int32) (b : Nat) (p q d : Int32) (m : Nat) : Nat → Int32 := fun i => if b + 16 < i ∧ i < b + 16 + m ∧ g (i - 16) = p ∧ q ≤ g i then g i + d else g i
theorem puG_lo {g : Nat → Int32} {b i m : Nat} {p q d : Int32} (h : i ≤ b + 16) : puG g b p q d m i = g i := by unfold puG; rw [if_neg]; omega
theorem puG_hi {g : Nat → Int32} {b i m : Nat} {p q d : Int32} (h : b + 16 + m ≤ i) : puG g b p q d m i = g i := by unfold puG; rw [if_neg]; omega
theorem push_ok {v : Mem} {x p q d : Int32} {o : Nat} (hx : x = nI o) (ho : o < 4) : X9_push v x p q d = some (upm v 1 (puG (v 1) (64 * o) p q d 16)) := by
  unfold X9_push
  obtain ⟨r, h, hr⟩ := lp_fu (fun n (s : Mem) z => X9_push_L3 x p q d n z s) 1 16 (fun k s => s = upm v 1 (puG (v 1) (64 * o) p q d k) ∧ 0 < k) (fun r => r = upm v 1 (puG (v 1) (64 * o) p q d 16)) v (by decide) (by decide) ⟨by
      have : puG (v 1) (64 * o) p q d 1 = v 1 := by
        funext i
        unfold puG
        rw [if_neg]
        omega
      rw [this, upm_id], by decide⟩
    (fun n s h => ⟨s, by rw [X9_push_L3, if_pos (by decide)], h.1⟩)
    (fun n s k hk h => Or.inl ⟨_, ⟨rfl, by omega⟩, by
      have hx2 := hx
      rw [X9_push_L3, if_neg (by rw [nle_16 (by omega)]; omega), h.1, upm_same, nar_1, hx, nml_64, nar_16, i_add, rd_ok (by omega) (by decide), ob_some, rPar rfl rfl ho hk, ob_some, upm_same, puG_hi (show 64 * o + 16 + k ≤ 64 * o + 16 + k by omega), puG_lo (show 64 * o + k ≤ 64 * o + 16 by omega)]
      have hne : ∀ i, i ≠ 64 * o + 16 + k → puG (v 1) (64 * o) p q d (k + 1) i = puG (v 1) (64 * o) p q d k i := by
        intro i hi
        unfold puG
        by_cases h1 : 64 * o + 16 < i ∧ i < 64 * o + 16 + k ∧ v 1 (i - 16) = p ∧ q ≤ v 1 i
        · rw [if_pos h1, if_pos ⟨h1.1, by omega, h1.2.2⟩]
        · rw [if_neg h1, if_neg]
          intro h2
          exact h1 ⟨h2.1, by omega, h2.2.2⟩
      have hat : puG (v 1) (64 * o) p q d (k + 1) (64 * o + 16 + k) = if v 1 (64 * o + k) = p ∧ q ≤ v 1 (64 * o + 16 + k) then v 1 (64 * o + 16 + k) + d else v 1 (64 * o + 16 + k) := by
        unfold puG
        rw [show 64 * o + 16 + k - 16 = 64 * o + k by omega]
        by_cases h1 : v 1 (64 * o + k) = p ∧ q ≤ v 1 (64 * o + 16 + k)
        · rw [if_pos h1, if_pos ⟨by omega, by omega, h1⟩]
        · rw [if_neg h1, if_neg (fun z => h1 z.2.2)]
      have hfin : ∀ y : Int32, y = puG (v 1) (64 * o) p q d (k + 1) (64 * o + 16 + k) → (stI 258 (upm v 1 (puG (v 1) (64 * o) p q d k)) 1 (nI (64 * o + 16 + k)) y).bind (fun mu9 => X9_push_L3 (nI o) p q d n (nI (k + 1)) mu9) = X9_push_L3 (nI o) p q d n (nI (k + 1)) (upm v 1 (puG (v 1) (64 * o) p q d (k + 1))) := by
        intro y hy
        rw [stI_ok (by omega) (by decide), ob_some, upm_same, upm_upm]
        congr 2
        funext i
        by_cases e : i = 64 * o + 16 + k
        · rw [e, upd_s, hy]
        · rw [upd_n _ _ e, hne i e]
      by_cases hp : v 1 (64 * o + k) = p
      · rw [if_pos hp, rPla rfl rfl ho hk, ob_some, upm_same, puG_hi (show 64 * o + 16 + k ≤ 64 * o + 16 + k by omega)]
        by_cases hq : v 1 (64 * o + 16 + k) < q
        · rw [if_pos hq, ob_some]
          refine hfin _ ?_
          rw [hat, if_neg (fun z => absurd hq (Int32.not_lt.mpr z.2)), i_add0]
        · rw [if_neg hq, ob_some]
          refine hfin _ ?_
          rw [hat, if_pos ⟨hp, Int32.not_lt.mp hq⟩]
      · rw [if_neg hp, ob_some]
        refine hfin _ ?_
        rw [hat, if_neg (fun z => hp z.1), i_add0]⟩)
  show (X9_push_L3 x p q d fu (nI 1) v).bind _ = _
  rw [h, hr]
  rfl
def haG (g : Nat → Int32) (b s : Nat) (p q : Int32) : Nat → Int32 := upd (upd (puG g b p q 1 16) (b + s) p) (b + 16 + s) q
def unG (g : Nat → Int32) (b s : Nat) : Nat → Int32 := puG (upd g (b + s) (-9)) b (g (b + s)) (g (b + 16 + s)) (-1) 16
theorem hang_ok {v : Mem} {x y p q : Int32} {o s : Nat} (hx : x = nI o) (ho : o < 4) (hy : y = nI s) (hs : s < 16) : X9_hang v x y p q = some (upm v 1 (haG (v 1) (64 * o) s p q)) := by
  unfold X9_hang
  rw [push_ok hx ho, ob_some, hx, hy, nml_64, i_add, stI_ok (by omega) (by decide), ob_some, nar_16, i_add, stI_ok (by omega) (by decide), ob_some]
  simp only [upm_same, upm_upm]
  rfl
theorem unhang_ok {v : Mem} {x y : Int32} {o s : Nat} (hx : x = nI o) (ho : o < 4) (hy : y = nI s) (hs : s < 16) : X9_unhang v x y = some (upm v 1 (unG (v 1) (64 * o) s)) := by
  unfold X9_unhang
  rw [rPar hx hy ho hs, ob_some, rPla hx hy ho hs, ob_some]
  have e : (64 * x) + y = nI (64 * o + s) := by rw [hx, hy, nml_64, i_add]
  rw [e, stI_ok (by omega) (by decide), ob_some, push_ok hx ho, ob_some]
  simp only [upm_same, upm_upm]
  rfl
/-- alike at k, but for names and texts -/
def RP (f g : Nat → Int32) (b k : Nat) : Prop := (f (64 + k) = 1 ∧ g (b + k) ≠ -9 ∧ f k = g (b + k) ∧ f (16 + k) = g (b + 16 + k)) ∨ (f (64 + k) = 0 ∧ g (b + k) = -9)
theorem rr_rp {f g : Nat → Int32} {b k : Nat} (h : RR f g b) (hk : k < 16) : RP f g b k := by
  rcases h k hk with ⟨a, c, d, e, -⟩ | h1
  · exact Or.inl ⟨a, c, d, e⟩
  · exact Or.inr h1
theorem rp_rr {f g : Nat → Int32} {b : Nat} (h : ∀ k, k < 16 → RP f g b k) (hn : ∀ k, k < 16 → f (64 + k) = 1 → f (32 + k) = g (b + 32 + k) ∧ f (48 + k) = g (b + 48 + k)) : RR f g b := by
  intro k hk
  rcases h k hk with ⟨a, c, d, e⟩ | h1
  · exact Or.inl ⟨a, c, d, e, hn k hk a⟩
  · exact Or.inr h1
theorem rp_cond {f g : Nat → Int32} {b k : Nat} {p : Int32} (h : RP f g b k) (h0 : 0 < k) (hp : p ≠ -9) : (chF f k p = true) ↔ g (b + k) = p := by
  unfold chF hF
  rcases h with ⟨a, c, d, e⟩ | ⟨a, c⟩
  · rw [a, d]; simp [h0]
  · rw [a, c]
    simp [Ne.symm hp]
theorem at_rp {f g : Nat → Int32} {b s : Nat} {p q : Int32} (hs : s < 16) (hp : p ≠ -9) (h : ∀ k, k < 16 → k ≠ s → RP f g b k) : ∀ k, k < 16 → RP (atF f s p q) (haG g b s p q) b k := by
  intro k hk
  by_cases e : k = s
  · subst e
    refine Or.inl ⟨?_, ?_, ?_, ?_⟩
    · have := at_h (f := f) (p := p) (q := q) hs hs
      simp at this
      rw [hh_of] at this
      exact this
    · unfold haG
      rw [upd_n _ _ (by omega), upd_s]
      exact hp
    · unfold haG
      rw [at_p hs hs, if_pos rfl, upd_n _ _ (by omega), upd_s]
    · unfold haG
      rw [at_q hs hs, if_pos rfl, upd_s]
  · have e1 : atF f s p q (64 + k) = f (64 + k) := by
      unfold atF
      rw [upd_n _ _ (by omega), upd_n _ _ (by omega), upd_n _ _ (by omega), shF_here (by omega) (by omega)]
    have e2 : haG g b s p q (b + k) = g (b + k) := by
      unfold haG
      rw [upd_n _ _ (by omega), upd_n _ _ (by omega), puG_lo (by omega)]
    rcases h k hk e with ⟨a, c, d, z⟩ | ⟨a, c⟩
    · refine Or.inl ⟨by rw [e1]; exact a, by rw [e2]; exact c, by rw [at_p hs hk, if_neg e, e2]; exact d, ?_⟩
      rw [at_q hs hk, if_neg e, sh_q hk]
      unfold haG
      rw [upd_n _ _ (by omega), upd_n _ _ (by omega)]
      unfold puG
      rw [show b + 16 + k - 16 = b + k by omega]
      by_cases k0 : k = 0
      · subst k0
        rw [if_neg (fun w => absurd (ch_h w.1).1 (by decide)), if_neg (by omega)]
        exact z
      · have hc := rp_cond (h k hk e) (by omega) hp
        rw [z]
        by_cases hcc : chF f k p = true ∧ q ≤ g (b + 16 + k)
        · rw [if_pos hcc, if_pos ⟨by omega, by omega, hc.mp hcc.1, hcc.2⟩]
        · rw [if_neg hcc, if_neg (fun w => hcc ⟨hc.mpr w.2.2.1, w.2.2.2⟩)]
    · exact Or.inr ⟨by rw [e1]; exact a, by rw [e2]; exact c⟩
theorem de_rp {f g : Nat → Int32} {b s : Nat} (h0 : 0 < s) (hs : s < 16) (hh : f (64 + s) = 1) (h : ∀ k, k < 16 → RP f g b k) : ∀ k, k < 16 → k ≠ s → RP (deF f s) (unG g b s) b k := by
  intro k hk e
  have hhs : hF f s = true := by rw [hh_of]; exact hh
  have hps : f s = g (b + s) ∧ f (16 + s) = g (b + 16 + s) ∧ g (b + s) ≠ -9 := by
    rcases h s hs with ⟨a, c, d, z⟩ | ⟨a, c⟩
    · exact ⟨d, z, c⟩
    · rw [hh] at a
      exact absurd a (by decide)
  have e1 : deF f s (64 + k) = f (64 + k) := de_n hs (by omega)
  have e2 : unG g b s (b + k) = g (b + k) := by
    unfold unG
    rw [puG_lo (by omega), upd_n _ _ (by omega)]
  rcases h k hk with ⟨a, c, d, z⟩ | ⟨a, c⟩
  · refine Or.inl ⟨by rw [e1]; exact a, by rw [e2]; exact c, by rw [de_p hs hk, if_neg e, e2]; exact d, ?_⟩
    unfold deF unG
    rw [sh_q hk, trF_here hhs, trF_here hhs, show 16 * 0 + s = s by omega, show 16 * 1 + s = 16 + s by omega, hps.1, hps.2.1, upd_n _ _ (by omega)]
    unfold puG
    rw [show b + 16 + k - 16 = b + k by omega, upd_n _ _ (by omega), upd_n _ _ (by omega)]
    by_cases k0 : k = 0
    · subst k0
      rw [if_neg (fun w => absurd (ch_h w.1).1 (by decide)), if_neg (by omega)]
      exact z
    · have hc : chF (upd f s (-1)) k (g (b + s)) = true ↔ g (b + k) = g (b + s) := by
        have : chF (upd f s (-1)) k (g (b + s)) = chF f k (g (b + s)) := by
          unfold chF hF
          rw [upd_n _ _ (by omega), upd_n _ _ e]
        rw [this]
        exact rp_cond (h k hk) (by omega) hps.2.2
      rw [z]
      by_cases hcc : chF (upd f s (-1)) k (g (b + s)) = true ∧ g (b + 16 + s) ≤ g (b + 16 + k)
      · rw [if_pos hcc, if_pos ⟨by omega, by omega, hc.mp hcc.1, hcc.2⟩]
      · rw [if_neg hcc, if_neg (fun w => hcc ⟨hc.mpr w.2.2.1, w.2.2.2⟩)]
  · exact Or.inr ⟨by rw [e1]; exact a, by rw [e2]; exact c⟩
theorem ha_out {g : Nat → Int32} {b s i : Nat} {p q : Int32} (hs : s < 16) (h : i < b ∨ b + 32 ≤ i) : haG g b s p q i = g i := by
  unfold haG
  rw [upd_n _ _ (by omega), upd_n _ _ (by omega)]
  unfold puG
  rw [if_neg (by omega)]
theorem un_out {g : Nat → Int32} {b s i : Nat} (hs : s < 16) (h : i < b ∨ b + 32 ≤ i) : unG g b s i = g i := by
  unfold unG puG
  rw [if_neg (by omega), upd_n _ _ (by omega)]
/-- alike rows stay so, if nothing of theirs is written -/
theorem rr_keep {f g g' : Nat → Int32} {b : Nat} (h : RR f g b) (hg : ∀ i, b ≤ i → i < b + 64 → g' i = g i) : RR f g' b := by
  intro k hk
  rw [hg (b + k) (by omega) (by omega), hg (b + 16 + k) (by omega) (by omega), hg (b + 32 + k) (by omega) (by omega), hg (b + 48 + k) (by omega) (by omega)]
  exact h k hk
theorem rr_add {f g : Nat → Int32} {b s : Nat} {p q n t : Int32} (hR : RR f g b) (hs : s < 16) (hp : p ≠ -9) : RR (adF f s p q n t) (upd (upd (haG g b s p q) (b + 32 + s) n) (b + 48 + s) t) b := by
  refine rp_rr (fun k hk => ?_) (fun k hk hh => ?_)
  · have := at_rp (q := q) hs hp (fun k hk _ => rr_rp hR hk) k hk
    unfold RP at this ⊢
    unfold adF
    rw [upd_n _ _ (by omega), upd_n _ _ (by omega), upd_n _ _ (by omega), upd_n _ _ (by omega), upd_n _ _ (by omega), upd_n _ _ (by omega), upd_n _ _ (by omega), upd_n _ _ (by omega), upd_n _ _ (by omega), upd_n _ _ (by omega)]
    exact this
  · unfold adF at hh ⊢
    by_cases e : k = s
    · subst e
      constructor
      · rw [upd_n _ _ (by omega), upd_s, upd_n _ _ (by omega), upd_s]
      · rw [upd_s, upd_s]
    · rw [upd_n _ _ (by omega), upd_n _ _ (by omega)] at hh
      rw [upd_n _ _ (by omega), upd_n _ _ (by omega), upd_n _ _ (by omega), upd_n _ _ (by omega), upd_n _ _ (by omega), upd_n _ _ (by omega), upd_n _ _ (by omega), upd_n _ _ (by omega), at_n hs (by omega) (by omega), at_n hs (by omega) (by omega), ha_out hs (by omega), ha_out hs (by omega)]
      have h2 : hF f k = true := by
        have := at_h (f := f) (p := p) (q := q) hs hk
        rw [show (hF (atF f s p q) k) = true by rw [hh_of]; exact hh] at this
        simp [e] at this
        exact this
      exact (rr_yes hR hk h2).2.2.2.2
theorem rr_move {f g : Nat → Int32} {b s : Nat} {p q : Int32} (hR : RR f g b) (h0 : 0 < s) (hs : s < 16) (hh : hF f s = true) (hp : p ≠ -9) : RR (atF (deF f s) s p q) (haG (unG g b s) b s p q) b := by
  have hh1 : f (64 + s) = 1 := by rw [← hh_of]; exact hh
  refine rp_rr (at_rp hs hp (de_rp h0 hs hh1 (fun k hk => rr_rp hR hk))) (fun k hk hk1 => ?_)
  rw [at_n hs (by omega) (by omega), at_n hs (by omega) (by omega), de_n hs (by omega), de_n hs (by omega), ha_out hs (by omega), ha_out hs (by omega), un_out hs (by omega), un_out hs (by omega)]
  have h2 : hF f k = true := by
    have := at_h (f := deF f s) (p := p) (q := q) hs hk
    rw [show (hF (atF (deF f s) s p q) k) = true by rw [hh_of]; exact hk1, de_h hs hk] at this
    by_cases e : k = s
    · rw [e]; exact hh
    · simp [e] at this
      exact this
  exact (rr_yes hR hk h2).2.2.2.2
theorem rr_put {f g : Nat → Int32} {b s w : Nat} {x : Int32} (hR : RR f g b) (hs : s < 16) (hw : w = 2 ∨ w = 3) : RR (upd f (16 * w + s) x) (upd g (b + 16 * w + s) x) b := by
  intro k hk
  rw [upd_n f _ (show 64 + k ≠ 16 * w + s by omega), upd_n f _ (show k ≠ 16 * w + s by omega), upd_n f _ (show 16 + k ≠ 16 * w + s by omega), upd_n g _ (show b + k ≠ b + 16 * w + s by omega), upd_n g _ (show b + 16 + k ≠ b + 16 * w + s by omega)]
  rcases hR k hk with ⟨a, c, d, e, z1, z2⟩ | h1
  · refine Or.inl ⟨a, c, d, e, ?_, ?_⟩
    · by_cases q : 32 + k = 16 * w + s
      · rw [q, upd_s, show b + 32 + k = b + 16 * w + s by omega, upd_s]
      · rw [upd_n _ _ q, upd_n _ _ (by omega)]; exact z1
    · by_cases q : 48 + k = 16 * w + s
      · rw [q, upd_s, show b + 48 + k = b + 16 * w + s by omega, upd_s]
      · rw [upd_n _ _ q, upd_n _ _ (by omega)]; exact z2
  · exact Or.inr h1
def dlG (g : Nat → Int32) (b m n : Nat) : Nat → Int32 := fun i => if b < i ∧ i < b + n ∧ m.testBit (i - b) = true then -9 else g i
theorem delete_L39 {v : Mem} {x : Int32} {o m : Nat} (hx : x = nI o) (ho : o < 4) (hm : m < 65536) : X9_delete_L39 x (nI m) fu 1 v = some (upm v 1 (dlG (v 1) (64 * o) m 16)) := by
  obtain ⟨r, h, hr⟩ := lp_fu (fun n (s : Mem) z => X9_delete_L39 x (nI m) n z s) 1 16 (fun k s => s = upm v 1 (dlG (v 1) (64 * o) m k) ∧ 0 < k) (fun r => r = upm v 1 (dlG (v 1) (64 * o) m 16)) v (by decide) (by decide) ⟨by
      have : dlG (v 1) (64 * o) m 1 = v 1 := by
        funext i
        unfold dlG
        rw [if_neg]
        omega
      rw [this, upm_id], by decide⟩
    (fun n s h => ⟨s, by rw [X9_delete_L39, if_pos (by decide)], h.1⟩)
    (fun n s k hk h => Or.inl ⟨_, ⟨rfl, by omega⟩, by
      rw [X9_delete_L39, if_neg (by rw [nle_16 (by omega)]; omega), h.1, nar_1, hx, nml_64, i_add]
      have hne : ∀ i, i ≠ 64 * o + k → dlG (v 1) (64 * o) m (k + 1) i = dlG (v 1) (64 * o) m k i := by
        intro i hi
        unfold dlG
        by_cases h1 : 64 * o < i ∧ i < 64 * o + k ∧ m.testBit (i - 64 * o) = true
        · rw [if_pos h1, if_pos ⟨h1.1, by omega, h1.2.2⟩]
        · rw [if_neg h1, if_neg]
          intro h2
          exact h1 ⟨h2.1, by omega, h2.2.2⟩
      have hat : dlG (v 1) (64 * o) m (k + 1) (64 * o + k) = if m.testBit k = true then -9 else v 1 (64 * o + k) := by
        unfold dlG
        rw [show 64 * o + k - 64 * o = k by omega]
        by_cases h1 : m.testBit k = true
        · rw [if_pos h1, if_pos ⟨by omega, by omega, h1⟩]
        · rw [if_neg h1, if_neg (fun z => h1 z.2.2)]
      have hfin : ∀ y : Int32, y = dlG (v 1) (64 * o) m (k + 1) (64 * o + k) → (stI 258 (upm v 1 (dlG (v 1) (64 * o) m k)) 1 (nI (64 * o + k)) y).bind (fun mu12 => X9_delete_L39 (nI o) (nI m) n (nI (k + 1)) mu12) = X9_delete_L39 (nI o) (nI m) n (nI (k + 1)) (upm v 1 (dlG (v 1) (64 * o) m (k + 1))) := by
        intro y hy
        rw [stI_ok (by omega) (by decide), ob_some, upm_same, upm_upm]
        congr 2
        funext i
        by_cases e : i = 64 * o + k
        · rw [e, upd_s, hy]
        · rw [upd_n _ _ e, hne i e]
      by_cases hb : m.testBit k = true
      · rw [if_pos (by rw [bt_is hm hk]; exact hb), ob_some]
        exact hfin _ (by rw [hat, if_pos hb])
      · rw [if_neg (by rw [bt_is hm hk]; exact hb), rPar rfl rfl ho hk, ob_some, ob_some]
        refine hfin _ ?_
        rw [hat, if_neg hb, upm_same]
        unfold dlG
        rw [if_neg (by omega)]⟩)
  show X9_delete_L39 x (nI m) fu (nI 1) v = _
  rw [h, hr]
theorem rr_drop {f g : Nat → Int32} {b s : Nat} (hR : RR f g b) (h0 : 0 < s) (hs : s < 16) (hh : hF f s = true) : RR (dpF f s) (dlG (unG g b s) b (bsN f 15 s) 16) b := by
  have hh1 : f (64 + s) = 1 := by rw [← hh_of]; exact hh
  have hsb : (bsN f 15 s).testBit s = true := by
    rw [bsN_bit f 15 s hs, hh]
    show (true && belN (PF f) 16 s s) = true
    rw [dp_self]
    rfl
  intro k hk
  by_cases hb : 0 < k ∧ (bsN f 15 s).testBit k = true
  · refine Or.inr ⟨?_, ?_⟩
    · unfold dpF drF
      rw [if_pos ⟨by omega, by omega, by rw [show 64 + k - 64 = k by omega]; exact hb.2⟩]
    · unfold dlG
      rw [if_pos ⟨by omega, by omega, by rw [show b + k - b = k by omega]; exact hb.2⟩]
  · have e : k ≠ s := by
      intro z
      exact hb ⟨by omega, by rw [z]; exact hsb⟩
    have e1 : dpF f s (64 + k) = deF f s (64 + k) := by
      unfold dpF drF
      rw [if_neg]
      rw [show 64 + k - 64 = k by omega]
      exact fun z => hb ⟨by omega, z.2.2⟩
    have e2 : dlG (unG g b s) b (bsN f 15 s) 16 (b + k) = unG g b s (b + k) := by
      unfold dlG
      rw [if_neg]
      rw [show b + k - b = k by omega]
      exact fun z => hb ⟨by omega, z.2.2⟩
    have e3 : ∀ i, 16 ≤ i → dlG (unG g b s) b (bsN f 15 s) 16 (b + i) = unG g b s (b + i) := by
      intro i hi
      unfold dlG
      rw [if_neg (by omega)]
    have hrp := de_rp h0 hs hh1 (fun k hk => rr_rp hR hk) k hk e
    rw [e1, e2, dp_lo hs (by omega), dp_lo hs (by omega), dp_lo hs (by omega), dp_lo hs (by omega), Nat.add_assoc b 16 k, Nat.add_assoc b 32 k, Nat.add_assoc b 48 k, e3 _ (by omega), e3 _ (by omega), e3 _ (by omega)]
    rcases hrp with ⟨a, c, d, z⟩ | h1
    · refine Or.inl ⟨a, c, d, by rw [← Nat.add_assoc]; exact z, ?_⟩
      rw [de_n hs (by omega), de_n hs (by omega), un_out hs (by omega), un_out hs (by omega), ← Nat.add_assoc, ← Nat.add_assoc]
      rw [de_n hs (by omega)] at a
      exact (rr_yes hR hk (by rw [hh_of]; exact a)).2.2.2.2
    · exact Or.inr h1
