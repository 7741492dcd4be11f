/-! ===== PHASE B: trees of numbers below 16 ===== -/
theorem pigeon : ∀ (m n : Nat) (f : Nat → Nat), (∀ i, i < n → f i < m) → (∀ i j, i < j → j < n → f i ≠ f j) → n ≤ m
  | 0, n, f, hm, _ => by
    rcases Nat.eq_zero_or_pos n with h | h
    · omega
    · exact absurd (hm 0 h) (by omega)
  | m + 1, n, f, hm, hj => by
    by_cases h : ∃ i, i < n ∧ f i = m
    · obtain ⟨i0, h1, h2⟩ := h
      have key := pigeon m (n - 1) (fun i => f (if i < i0 then i else i + 1)) (fun i hi => by
        show f (if i < i0 then i else i + 1) < m
        split
        · rename_i q
          have a := hm i (by omega)
          have b := hj i i0 q h1
          omega
        · rename_i q
          have a := hm (i + 1) (by omega)
          have b := hj i0 (i + 1) (by omega) (by omega)
          omega) (fun i j hij hjn => by
        show f (if i < i0 then i else i + 1) ≠ f (if j < i0 then j else j + 1)
        split <;> split
        · exact hj i j hij (by omega)
        · exact hj i (j + 1) (by omega) (by omega)
        · omega
        · exact hj (i + 1) (j + 1) (by omega) (by omega))
      omega
    · have key := pigeon m n f (fun i hi => by
        have a := hm i hi
        have b : f i ≠ m := fun e => h ⟨i, hi, e⟩
        omega) hj
      omega
/-- going up -/
def up (P : Nat → Nat) : Nat → Nat → Nat
  | 0, k => k
  | i + 1, k => up P i (P k)
theorem up_add (P : Nat → Nat) : ∀ (i j k : Nat), up P (i + j) k = up P j (up P i k)
  | 0, j, k => by rw [Nat.zero_add]; rfl
  | i + 1, j, k => by rw [show i + 1 + j = (i + j) + 1 by omega]; exact up_add P i j (P k)
theorem up_succ (P : Nat → Nat) (i k : Nat) : up P (i + 1) k = P (up P i k) := by rw [up_add P i 1 k]; rfl
theorem up_fix {P : Nat → Nat} {r : Nat} (h : P r = r) : ∀ i, up P i r = r
  | 0 => rfl
  | i + 1 => by
    show up P i (P r) = r
    rw [h]
    exact up_fix h i
def belN (P : Nat → Nat) : Nat → Nat → Nat → Bool
  | 0, _, _ => false
  | n + 1, k, t => decide (k = t) || belN P n (P k) t
theorem belN_iff (P : Nat → Nat) : ∀ (n k t : Nat), belN P n k t = true ↔ ∃ i, i < n ∧ up P i k = t
  | 0, k, t => by simp [belN]
  | n + 1, k, t => by
    simp only [belN, Bool.or_eq_true, decide_eq_true_eq, belN_iff P n (P k) t]
    constructor
    · rintro (h | ⟨i, h1, h2⟩)
      · exact ⟨0, by omega, h⟩
      · exact ⟨i + 1, by omega, h2⟩
    · rintro ⟨i, h1, h2⟩
      cases i with
      | zero => exact Or.inl h2
      | succ i => exact Or.inr ⟨i, by omega, h2⟩
/-- closed: the root is there, each one that is there has its parent there -/
def Clo (H : Nat → Bool) (P : Nat → Nat) : Prop := H 0 = true ∧ P 0 = 0 ∧ ∀ k, k < 16 → H k = true → P k < 16 ∧ H (P k) = true
def Acy (H : Nat → Bool) (P : Nat → Nat) : Prop := ∀ k, k < 16 → H k = true → ∃ i, up P i k = 0
theorem Clo.up {H : Nat → Bool} {P : Nat → Nat} (h : Clo H P) : ∀ (i k : Nat), k < 16 → H k = true → up P i k < 16 ∧ H (up P i k) = true
  | 0, k, h1, h2 => ⟨h1, h2⟩
  | i + 1, k, h1, h2 => h.up i (P k) (h.2.2 k h1 h2).1 (h.2.2 k h1 h2).2
/-- the first time -/
theorem least {p : Nat → Prop} (h : ∃ i, p i) : ∃ i, p i ∧ ∀ j, j < i → ¬ p j := pk_least p h
theorem Acy.first {H : Nat → Bool} {P : Nat → Nat} (hC : Clo H P) (h : Acy H P) {k : Nat} (h1 : k < 16) (h2 : H k = true) : ∃ i, i < 16 ∧ up P i k = 0 ∧ (∀ j, j < i → up P j k ≠ 0) ∧ ∀ a b, a < b → b ≤ i → up P a k ≠ up P b k := by
  obtain ⟨i, hi, hl⟩ := least (h k h1 h2)
  have inj : ∀ a b, a < b → b ≤ i → up P a k ≠ up P b k := by
    intro a b hab hb e
    have e1 : up P (a + (i - b)) k = 0 := by
      rw [up_add P a (i - b) k, e, ← up_add P b (i - b) k, show b + (i - b) = i by omega]
      exact hi
    exact hl (a + (i - b)) (by omega) e1
  have := pigeon 16 (i + 1) (fun j => up P j k) (fun j _ => (hC.up j k h1 h2).1) (fun a b hab hb => inj a b hab (by omega))
  exact ⟨i, by omega, hi, hl, inj⟩
theorem up_zero {P : Nat → Nat} (h0 : P 0 = 0) {i j k : Nat} (hi : up P i k = 0) (hij : i ≤ j) : up P j k = 0 := by
  rw [show j = i + (j - i) by omega, up_add, hi, up_fix h0]
theorem Acy.all {H : Nat → Bool} {P : Nat → Nat} (hC : Clo H P) (h : Acy H P) {k : Nat} (h1 : k < 16) (h2 : H k = true) : up P 15 k = 0 := by
  obtain ⟨i, a, b, -⟩ := h.first hC h1 h2
  exact up_zero hC.2.1 b (by omega)
/-- beyond sixteen steps nothing new -/
theorem bel_any {H : Nat → Bool} {P : Nat → Nat} (hC : Clo H P) (h : Acy H P) {k t : Nat} (h1 : k < 16) (h2 : H k = true) : belN P 16 k t = true ↔ ∃ i, up P i k = t := by
  rw [belN_iff]
  constructor
  · rintro ⟨i, -, h⟩
    exact ⟨i, h⟩
  · rintro ⟨i, hi⟩
    by_cases hl : i < 16
    · exact ⟨i, hl, hi⟩
    · exact ⟨15, by omega, by rw [h.all hC h1 h2, ← hi, up_zero hC.2.1 (h.all hC h1 h2) (show 15 ≤ i by omega)]⟩
/-! the class's row as a tree -/
def PF (f : Nat → Int32) (k : Nat) : Nat := if k = 0 then 0 else (f k).toNatClampNeg
/-- the row is well formed, but may have rings -/
def CloF (f : Nat → Int32) : Prop := f 64 = 1 ∧ f 0 = -1 ∧ (∀ k, k < 16 → f (64 + k) = 1 ∨ f (64 + k) = 0) ∧ ∀ k, 0 < k → k < 16 → f (64 + k) = 1 → ∃ p, p < 16 ∧ f k = nI p ∧ f (64 + p) = 1
theorem CloF.par {f : Nat → Int32} (h : CloF f) {k : Nat} (h0 : 0 < k) (hk : k < 16) (hh : hF f k = true) : f k = nI (PF f k) ∧ PF f k < 16 ∧ hF f (PF f k) = true := by
  unfold hF at hh
  obtain ⟨p, h1, h2, h3⟩ := h.2.2.2 k h0 hk (of_decide_eq_true hh)
  have e : PF f k = p := by unfold PF; rw [if_neg (by omega), h2, i_tn (by omega)]
  rw [e]
  exact ⟨h2, h1, by unfold hF; rw [h3]; rfl⟩
theorem CloF.clo {f : Nat → Int32} (h : CloF f) : Clo (hF f) (PF f) := by
  refine ⟨by unfold hF; rw [h.1]; rfl, rfl, fun k hk hh => ?_⟩
  by_cases h0 : k = 0
  · subst h0
    exact ⟨(show (0 : Nat) < 16 by decide), hh⟩
  · exact (h.par (by omega) hk hh).2
theorem trF_here {f : Nat → Int32} {k w : Nat} (h : hF f k = true) : trF f k w = f (16 * w + k) := by
  unfold trF
  unfold hF at h
  have h := of_decide_eq_true h
  rw [if_neg (by rw [h]; decide)]
theorem trF_not {f : Nat → Int32} {k w : Nat} (hf : CloF f) (hk : k < 16) (h : hF f k = false) : trF f k w = -1 := by
  unfold trF
  unfold hF at h
  have h := of_decide_eq_false h
  rw [if_pos ((hf.2.2.1 k hk).resolve_left h)]
theorem trF_par {f : Nat → Int32} {k : Nat} (hf : CloF f) (hk : k < 16) (h : hF f k = true) : trF f k 0 = if k = 0 then -1 else nI (PF f k) := by
  rw [trF_here h, show 16 * 0 + k = k by omega]
  split
  · rename_i e; subst e; exact hf.2.1
  · exact (hf.par (by omega) hk h).1
theorem isBelow_none (f : Nat → Int32) (t : Nat) (ht : t < 16) : ∀ c n s, s + c = 16 → c < n → X4_isBelow_L5 (nI t) f n (-1) (nI s) = some false := by
  intro c
  induction c with
  | zero =>
    intro n s h1 h2
    cases n with
    | zero => omega
    | succ n => rw [X4_isBelow_L5, if_pos (by rw [nle_16 (by omega)]; omega)]
  | succ c ih =>
    intro n s h1 h2
    cases n with
    | zero => omega
    | succ n =>
      rw [X4_isBelow_L5, if_neg (by rw [nle_16 (by omega)]; omega), if_neg (fun e => i_m1 (by omega) e.symm), trait_out (Or.inl (by decide)), ob_some, nar_1]
      exact ih n (s + 1) (by omega) (by omega)
theorem isBelow_L {f : Nat → Int32} (hf : CloF f) {t : Nat} (ht : t < 16) : ∀ c n k s, s + c = 16 → c < n → k < 16 → hF f k = true → X4_isBelow_L5 (nI t) f n (nI k) (nI s) = some (belN (PF f) c k t) := by
  intro c
  induction c with
  | zero =>
    intro n k s h1 h2 hk hh
    cases n with
    | zero => omega
    | succ n => rw [X4_isBelow_L5, if_pos (by rw [nle_16 (by omega)]; omega)]; rfl
  | succ c ih =>
    intro n k s h1 h2 hk hh
    cases n with
    | zero => omega
    | succ n =>
      rw [X4_isBelow_L5, if_neg (by rw [nle_16 (by omega)]; omega)]
      by_cases e : k = t
      · rw [if_pos (by rw [e])]
        simp [belN, e]
      · rw [if_neg (by rw [c_eq (by omega) (by omega)]; exact e), show (0 : Int32) = nI 0 from rfl, trait_ok hk (by decide), ob_some, nar_1, trF_par hf hk hh]
        simp only [belN, e, decide_false, Bool.false_or]
        by_cases h0 : k = 0
        · subst h0
          rw [if_pos rfl, isBelow_none f t ht c n (s + 1) (by omega) (by omega)]
          have : belN (PF f) c (PF f 0) t = false := by
            rw [← Bool.not_eq_true, belN_iff]
            rintro ⟨i, -, hi⟩
            have e1 : PF f 0 = 0 := rfl
            rw [e1, up_fix e1] at hi
            exact e hi
          rw [this]
        · rw [if_neg h0]
          obtain ⟨-, q1, q2⟩ := hf.par (by omega) hk hh
          exact ih n (PF f k) (s + 1) (by omega) (by omega) q1 q2
theorem isBelow_ok {f : Nat → Int32} (hf : CloF f) {k t : Nat} (hk : k < 16) (hh : hF f k = true) (ht : t < 16) : X4_isBelow f (nI k) (nI t) = some (belN (PF f) 16 k t) := by
  unfold X4_isBelow
  exact isBelow_L hf ht 16 fu k 0 rfl (by rw [fu_big]; decide) hk hh
