/-! ===== PHASE B: merging, step (f): rings ===== -/
def onR (P : Nat → Nat) (s : Nat) : Bool := belN P 16 (P s) s
theorem cnt_mono {p q : Nat → Bool} : ∀ {n : Nat}, (∀ k, k < n → p k = true → q k = true) → cnt p n ≤ cnt q n
  | 0, _ => Nat.le_refl _
  | n + 1, h => by
    have ih := cnt_mono (p := p) (q := q) (n := n) (fun k hk => h k (by omega))
    simp only [cnt]
    by_cases e : p n = true
    · rw [if_pos e, if_pos (h n (by omega) e)]; omega
    · rw [if_neg e]; omega
theorem noring_acy {H : Nat → Bool} {P : Nat → Nat} (hC : Clo H P) (h : ∀ s, 0 < s → s < 16 → H s = true → onR P s = false) : Acy H P := by
  intro k hk hH
  apply Classical.byContradiction
  intro hn
  have hn : ∀ i, up P i k ≠ 0 := fun i z => hn ⟨i, z⟩
  have : ¬ ∀ i j, i < j → j < 17 → up P i k ≠ up P j k := fun z => by
    have := pigeon 16 17 (fun i => up P i k) (fun i _ => (hC.up i k hk hH).1) z
    omega
  apply this
  intro i j hij hj e
  have hs := hC.up i k hk hH
  have h0 : 0 < up P i k := Nat.pos_of_ne_zero (hn i)
  have hr := h _ h0 hs.1 hs.2
  have : onR P (up P i k) = true := by
    unfold onR
    rw [belN_iff]
    refine ⟨j - i - 1, by omega, ?_⟩
    have e2 : up P (j - i) (up P i k) = up P j k := by
      rw [← up_add, show i + (j - i) = j by omega]
    rw [show j - i = (j - i - 1) + 1 by omega] at e2
    rw [show up P (j - i - 1) (P (up P i k)) = up P (j - i - 1 + 1) (up P i k) from rfl, e2, e]
  rw [hr] at this
  cases this
/-- a ring's length -/
theorem ring_len {P : Nat → Nat} {s : Nat} (h : onR P s = true) : ∃ L, 0 < L ∧ L ≤ 16 ∧ up P L s = s ∧ ∀ j, 0 < j → j < L → up P j s ≠ s := by
  unfold onR at h
  rw [belN_iff] at h
  obtain ⟨i, hi, e⟩ := h
  have ex : ∃ L, 0 < L ∧ L ≤ 16 ∧ up P L s = s := ⟨i + 1, by omega, by omega, e⟩
  obtain ⟨L, ⟨h1, h2, h3⟩, hm⟩ := least ex
  exact ⟨L, h1, h2, h3, fun j a b c => hm j b ⟨a, by omega, c⟩⟩
theorem up_mod {P : Nat → Nat} {s L : Nat} (h0 : 0 < L) (h : up P L s = s) : ∀ i, ∃ j, j < L ∧ up P i s = up P j s := by
  intro i
  induction i with
  | zero => exact ⟨0, h0, rfl⟩
  | succ i ih =>
    obtain ⟨j, hj, e⟩ := ih
    rw [up_succ, e, ← up_succ P j s]
    by_cases hl : j + 1 < L
    · exact ⟨j + 1, hl, rfl⟩
    · have : j + 1 = L := by omega
      rw [this, h]
      exact ⟨0, h0, rfl⟩
theorem ring_bel {P : Nat → Nat} {s L t : Nat} (h0 : 0 < L) (hL : L ≤ 16) (h : up P L s = s) : belN P L s t = belN P 16 s t := by
  have : belN P L s t = true ↔ belN P 16 s t = true := by
    rw [belN_iff, belN_iff]
    constructor
    · rintro ⟨i, hi, e⟩; exact ⟨i, by omega, e⟩
    · rintro ⟨i, hi, e⟩
      obtain ⟨j, hj, e2⟩ := up_mod h0 h i
      exact ⟨j, hj, by rw [← e2]; exact e⟩
  cases h1 : belN P L s t <;> cases h2 : belN P 16 s t <;> rw [h1, h2] at this <;> simp at this <;> rfl
theorem ring_nz {P : Nat → Nat} {s t : Nat} (hP : P 0 = 0) (h0 : 0 < s) (h : onR P s = true) (ht : belN P 16 s t = true) : P t ≠ 0 := by
  intro z
  obtain ⟨L, l1, l2, l3, -⟩ := ring_len h
  rw [belN_iff] at ht
  obtain ⟨i, hi, e⟩ := ht
  obtain ⟨j, hj, e2⟩ := up_mod l1 l3 i
  have a : up P (j + 1) s = 0 := by rw [up_succ, ← e2, e, z]
  have b : up P L s = 0 := by
    rw [show L = (j + 1) + (L - (j + 1)) by omega, up_add, a]
    exact up_fix hP _
  omega
theorem Jh.clo {I : Nat → Bool} {b : Nat → Int32} {N : Nat} {u0 v0 u v : Mem} (h : Jh I N u0 v0 u v) (hg : Hung I b 16 u) (h0 : I 0 = true) : CloF (u 49) := by
  obtain ⟨-, -, a3, -, -, -, a7, -, -⟩ := h
  refine ⟨by have := a3 0 (by decide); rw [h0] at this; exact this, a7, fun k hk => ?_, fun k x0 hk hh => ?_⟩
  · rw [a3 k hk]
    cases I k
    · exact Or.inr rfl
    · exact Or.inl rfl
  · have hI : I k = true := by
      rw [a3 k hk] at hh
      cases hI : I k
      · rw [hI] at hh; exact absurd hh (by decide)
      · rfl
    obtain ⟨q, q1, q2, -, q4⟩ := hg k x0 hk hI
    refine ⟨q, q1, q2, ?_⟩
    rw [a3 q q1, q4 hk]; rfl
theorem Jh.hF {I : Nat → Bool} {N : Nat} {u0 v0 u v : Mem} (h : Jh I N u0 v0 u v) {k : Nat} (hk : k < 16) : hF (u 49) k = I k := hF_of (h.2.2.1 k hk)
theorem trait0 {f : Nat → Int32} (hf : CloF f) {k : Nat} (h0 : 0 < k) (hk : k < 16) (h : hF f k = true) : X4_trait f (nI k) 0 = some (nI (PF f k)) := by
  rw [show X4_trait f (nI k) 0 = some (trF f k 0) from trait_ok (w := 0) hk (by decide), trF_par hf hk h, if_neg (by omega)]
/-- the least one on a ring -/
theorem leastInRing_ok {I : Nat → Bool} {b : Nat → Int32} {N : Nat} {u0 v0 u v : Mem} (h : Jh I N u0 v0 u v) (hg : Hung I b 16 u) (h0 : I 0 = true) : ∃ r, X3_leastInRing u = some r ∧ ((∃ s, 0 < s ∧ s < 16 ∧ r = nI s ∧ I s = true ∧ onR (PF (u 49)) s = true ∧ ∀ j, 0 < j → j < s → I j = true → onR (PF (u 49)) j = false) ∨ (r = -1 ∧ ∀ j, 0 < j → j < 16 → I j = true → onR (PF (u 49)) j = false)) := by
  have hC := h.clo hg h0
  unfold X3_leastInRing
  exact lp_fu (fun n (_ : Unit) z => X3_leastInRing_L2 u n z) 1 16 (fun k _ => 0 < k ∧ ∀ j, 0 < j → j < k → I j = true → onR (PF (u 49)) j = false) _ () (by decide) (by decide) ⟨by decide, fun j x1 x2 => by omega⟩
    (fun n _ hJ => ⟨-1, by rw [X3_leastInRing_L2, if_pos (by decide)], Or.inr ⟨rfl, hJ.2⟩⟩)
    (fun n _ k hk ⟨hk0, hJ⟩ => by
      rw [X3_leastInRing_L2, if_neg (by rw [nle_16 (by omega)]; omega), holds_ok hk, ob_some, h.hF hk, nar_1]
      cases hI : I k
      · rw [if_pos bt_f]
        left
        exact ⟨(), ⟨by omega, fun j x1 x2 x3 => by
          by_cases e : j = k
          · rw [e, hI] at x3; cases x3
          · exact hJ j x1 (by omega) x3⟩, rfl⟩
      · have hh : hF (u 49) k = true := by rw [h.hF hk]; exact hI
        obtain ⟨-, p2, p3⟩ := hC.par hk0 hk hh
        rw [if_neg bt_t, trait0 hC hk0 hk hh, ob_some, isBelow_ok hC p2 p3 hk, ob_some]
        cases hr : belN (PF (u 49)) 16 (PF (u 49) k) k
        · rw [if_pos bt_f]
          left
          exact ⟨(), ⟨by omega, fun j x1 x2 x3 => by
            by_cases e : j = k
            · rw [e]; exact hr
            · exact hJ j x1 (by omega) x3⟩, rfl⟩
        · rw [if_neg bt_t]
          right
          exact ⟨nI k, rfl, Or.inl ⟨k, hk0, hk, rfl, hI, hr, hJ⟩⟩)
theorem Jh.par {I : Nat → Bool} {b : Nat → Int32} {N : Nat} {u0 v0 u v : Mem} (h : Jh I N u0 v0 u v) (hg : Hung I b 16 u) (h0 : I 0 = true) {k : Nat} (hk0 : 0 < k) (hk : k < 16) (hI : I k = true) : v 1 (192 + k) = nI (PF (u 49) k) ∧ u 49 k = nI (PF (u 49) k) ∧ PF (u 49) k < 16 ∧ I (PF (u 49) k) = true := by
  have hC := h.clo hg h0
  have hh : CMergedOutlineLaw_law_r9914_15a68d.hF (u 49) k = true := by rw [h.hF hk]; exact hI
  obtain ⟨p1, p2, p3⟩ := hC.par hk0 hk hh
  rw [h.hF p2] at p3
  refine ⟨?_, p1, p2, p3⟩
  rw [← h.2.2.2.2.1 k hk hI]; exact p1
theorem isOnRing_ok {I : Nat → Bool} {b : Nat → Int32} {N : Nat} {u0 v0 u v : Mem} (h : Jh I N u0 v0 u v) (hg : Hung I b 16 u) (h0 : I 0 = true) {s : Nat} (hs0 : 0 < s) (hs : s < 16) (hI : I s = true) : X9_isOnRing v (nI s) = some (onR (PF (u 49)) s) := by
  have hC := (h.clo hg h0).clo
  have hup : ∀ k, up (PF (u 49)) k s < 16 ∧ I (up (PF (u 49)) k s) = true := by
    intro k
    have := hC.up k s hs (by rw [h.hF hs]; exact hI)
    rw [h.hF this.1] at this
    exact this
  have main : ∀ c k n, k + c = 16 → c < n → X9_isOnRing_L4 (nI s) v n (nI (up (PF (u 49)) k s)) (nI k) = some (belN (PF (u 49)) c (PF (u 49) (up (PF (u 49)) k s)) s) := by
    intro c
    induction c with
    | zero =>
      intro k n h1 h2
      obtain ⟨n, rfl⟩ : ∃ n', n = n' + 1 := ⟨n - 1, by omega⟩
      rw [X9_isOnRing_L4, if_pos (by rw [nle_16 (by omega)]; omega)]; rfl
    | succ c ih =>
      intro k n h1 h2
      obtain ⟨n, rfl⟩ : ∃ n', n = n' + 1 := ⟨n - 1, by omega⟩
      have hk := hup k
      have nx : (if (0 : Int32) < nI (up (PF (u 49)) k s) then (X9_parentOf v 3 (nI (up (PF (u 49)) k s))).bind fun r5 => some r5 else some 0) = some (nI (PF (u 49) (up (PF (u 49)) k s))) := by
        by_cases e : up (PF (u 49)) k s = 0
        · rw [if_neg (by rw [nlt_0 (by omega)]; omega), e]; rfl
        · rw [if_pos (by rw [nlt_0 (by omega)]; omega), par3 hk.1, (h.par hg h0 (by omega) hk.1 hk.2).1]; rfl
      rw [X9_isOnRing_L4, if_neg (by rw [nle_16 (by omega)]; omega), nx, ob_some, nar_1]
      have hk1 := hup (k + 1)
      rw [up_succ] at hk1
      have e2 : belN (PF (u 49)) (c + 1) (PF (u 49) (up (PF (u 49)) k s)) s = (decide (PF (u 49) (up (PF (u 49)) k s) = s) || belN (PF (u 49)) c (PF (u 49) (PF (u 49) (up (PF (u 49)) k s))) s) := rfl
      rw [e2]
      by_cases e : PF (u 49) (up (PF (u 49)) k s) = s
      · rw [if_pos (by rw [e]), if_neg (by rw [nel_0 (by omega)]; omega)]
        simp [e]
      · rw [if_neg (by rw [c_eq (by omega) (by omega)]; exact e), ← up_succ (PF (u 49)) k s, ih (k + 1) n (by omega) (by omega), up_succ]
        simp [e]
  exact main 16 0 fu (by decide) (by decide)
theorem ringFrom_ok {I : Nat → Bool} {b : Nat → Int32} {N : Nat} {u0 v0 u v : Mem} (h : Jh I N u0 v0 u v) (hg : Hung I b 16 u) (h0 : I 0 = true) {s : Nat} (hs0 : 0 < s) (hs : s < 16) (hI : I s = true) (hr : onR (PF (u 49)) s = true) : ∃ m, m < 65536 ∧ X9_ringFrom v (nI s) = some (nI m) ∧ ∀ t, t < 16 → m.testBit t = belN (PF (u 49)) 16 s t := by
  have hC := (h.clo hg h0).clo
  have hup : ∀ k, up (PF (u 49)) k s < 16 ∧ I (up (PF (u 49)) k s) = true := by
    intro k
    have := hC.up k s hs (by rw [h.hF hs]; exact hI)
    rw [h.hF this.1] at this
    exact this
  obtain ⟨L, l1, l2, l3, l4⟩ := ring_len hr
  have hP0 : PF (u 49) 0 = 0 := rfl
  have hnz : ∀ k, up (PF (u 49)) k s ≠ 0 := by
    intro k z
    obtain ⟨j, hj, e⟩ := up_mod l1 l3 k
    rw [e] at z
    have b : up (PF (u 49)) L s = 0 := by
      rw [show L = j + (L - j) by omega, up_add, z]
      exact up_fix hP0 _
    omega
  have hm : ∀ k, mk (fun t => belN (PF (u 49)) k s t) 16 < 65536 := fun k => mk_lt _ 16
  have hstep : ∀ k, mk (fun t => belN (PF (u 49)) k s t) 16 ||| 2 ^ (up (PF (u 49)) k s) = mk (fun t => belN (PF (u 49)) (k + 1) s t) 16 := by
    intro k
    refine bit_ext ?_ (hm _) (fun t ht => ?_)
    · exact Nat.or_lt_two_pow (n := 16) (hm k) (Nat.pow_lt_pow_right (by decide) (hup k).1)
    · rw [Nat.testBit_or, mk_bit, mk_bit, Nat.testBit_two_pow]
      have : belN (PF (u 49)) (k + 1) s t = (belN (PF (u 49)) k s t || decide (up (PF (u 49)) k s = t)) := by
        have : belN (PF (u 49)) (k + 1) s t = true ↔ (belN (PF (u 49)) k s t = true ∨ up (PF (u 49)) k s = t) := by
          rw [belN_iff, belN_iff]
          constructor
          · rintro ⟨i, hi, e⟩
            by_cases e2 : i = k
            · right; rw [← e2]; exact e
            · left; exact ⟨i, by omega, e⟩
          · rintro (⟨i, hi, e⟩ | e)
            · exact ⟨i, by omega, e⟩
            · exact ⟨k, by omega, e⟩
        cases h1 : belN (PF (u 49)) (k + 1) s t <;> cases h2 : belN (PF (u 49)) k s t <;> by_cases e : up (PF (u 49)) k s = t <;> simp_all
      rw [this]
      simp [ht]
  have main : ∀ d k n, k + 1 + d = L → d < n → X9_ringFrom_L4 (nI s) v n (nI (mk (fun t => belN (PF (u 49)) k s t) 16)) (nI (up (PF (u 49)) k s)) = some (nI (mk (fun t => belN (PF (u 49)) L s t) 16)) := by
    intro d
    induction d with
    | zero =>
      intro k n h1 h2
      obtain ⟨n, rfl⟩ : ∃ n', n = n' + 1 := ⟨n - 1, by omega⟩
      have e : L = k + 1 := by omega
      have hk := hup k
      rw [X9_ringFrom_L4, par3 hk.1, ob_some, (h.par hg h0 (Nat.pos_of_ne_zero (hnz k)) hk.1 hk.2).1, ← up_succ (PF (u 49)) k s, ← e, l3, if_pos rfl, bt_one _ hk.1, nx_or, hstep, ← e]
    | succ d ih =>
      intro k n h1 h2
      obtain ⟨n, rfl⟩ : ∃ n', n = n' + 1 := ⟨n - 1, by omega⟩
      have hk := hup k
      rw [X9_ringFrom_L4, par3 hk.1, ob_some, (h.par hg h0 (Nat.pos_of_ne_zero (hnz k)) hk.1 hk.2).1, ← up_succ (PF (u 49)) k s, if_neg (by rw [c_eq (by have := hup (k + 1); omega) (by omega)]; exact l4 (k + 1) (by omega) (by omega)), bt_one _ hk.1, nx_or, hstep]
      exact ih (k + 1) n (by omega) (by omega)
  refine ⟨mk (fun t => belN (PF (u 49)) L s t) 16, hm L, ?_, fun t ht => ?_⟩
  · unfold X9_ringFrom
    have := main (L - 1) 0 fu (by omega) (by rw [fu_big]; omega)
    rw [show mk (fun t => belN (PF (u 49)) 0 s t) 16 = 0 from bit_ext (hm 0) (by decide) (fun t ht => by rw [mk_bit]; simp [belN])] at this
    rw [show X9_ringFrom_L4 (nI s) v fu 0 (nI s) = _ from this]; rfl
  · rw [mk_bit, ring_bel l1 l2 l3]
    simp [ht]
