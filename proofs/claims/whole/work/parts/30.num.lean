/-! ===== PHASE B: numbers ===== -/
theorem i_lit (n : Nat) : (OfNat.ofNat n : Int32) = nI n := rfl
theorem c_le {a b : Nat} (ha : a < 2147483648) (hb : b < 2147483648) : (nI a ≤ nI b) = (a ≤ b) := propext (nI_leI ha hb)
theorem c_lt {a b : Nat} (ha : a < 2147483648) (hb : b < 2147483648) : (nI a < nI b) = (a < b) := propext (nI_ltI ha hb)
theorem c_eq {a b : Nat} (ha : a < 2147483648) (hb : b < 2147483648) : (nI a = nI b) = (a = b) := propext (nI_eq ha hb)
theorem i_inj {a b : Nat} (ha : a < 2147483648) (hb : b < 2147483648) (h : nI a = nI b) : a = b := (nI_eq ha hb).mp h
theorem i_add (a b : Nat) : nI a + nI b = nI (a + b) := nI_add a b
theorem i_mul (a b : Nat) : nI a * nI b = nI (a * b) := pk_mul a b
theorem i_sub {a b : Nat} (h : b ≤ a) : nI a - nI b = nI (a - b) := pk_sub h
theorem i_nn {a : Nat} (h : a < 2147483648) : ¬ nI a < 0 := nI_pos h
theorem i_tn {a : Nat} (h : a < 2147483648) : (nI a).toNatClampNeg = a := nI_clamp h
theorem i_toInt {a : Nat} (h : a < 2147483648) : (nI a).toInt = (a : Int) := nI_toInt h
theorem i_m1 {a : Nat} (h : a < 2147483648) : nI a ≠ -1 := by
  intro e
  have := congrArg Int32.toInt e
  rw [i_toInt h] at this
  have h2 : (-1 : Int32).toInt = -1 := by decide
  rw [h2] at this
  omega
theorem i_m9 {a : Nat} (h : a < 2147483648) : nI a ≠ -9 := by
  intro e
  have := congrArg Int32.toInt e
  rw [i_toInt h] at this
  have h2 : (-9 : Int32).toInt = -9 := by decide
  rw [h2] at this
  omega
theorem i_neg {a : Nat} (h : a < 2147483648) {x : Int32} (hx : x.toInt < 0) : nI a ≠ x := by
  intro e
  have := congrArg Int32.toInt e
  rw [i_toInt h] at this
  omega
/-- every number is below 0, from n on, or one of 0 .. n - 1 -/
theorem i_cases (x : Int32) {n : Nat} (hn : n < 2147483648) : x < 0 ∨ nI n ≤ x ∨ ∃ j : Nat, j < n ∧ x = nI j := pk_ix x hn
theorem rd_ok {n i : Nat} {f : Nat → Int32} (h : i < n) (hn : n < 2147483648) : rd n f (nI i) = some (f i) := by
  unfold rd
  rw [i_tn (by omega), if_neg]
  intro q
  rcases q with q | q
  · exact i_nn (by omega) q
  · omega
theorem wr_ok {n i : Nat} {f : Nat → Int32} {x : Int32} (h : i < n) (hn : n < 2147483648) : wr n f (nI i) x = some (upd f i x) := by
  unfold wr
  rw [i_tn (by omega), if_neg]
  intro q
  rcases q with q | q
  · exact i_nn (by omega) q
  · omega
theorem stI_ok {n a i : Nat} {u : Mem} {x : Int32} (h : i < n) (hn : n < 2147483648) : stI n u a (nI i) x = some (upm u a (upd (u a) i x)) := by
  unfold stI
  rw [i_tn (by omega), if_neg]
  intro q
  rcases q with q | q
  · exact i_nn (by omega) q
  · omega
theorem upd_s (f : Nat → Int32) (k : Nat) (x : Int32) : upd f k x k = x := by simp [upd]
theorem upd_n (f : Nat → Int32) {k j : Nat} (x : Int32) (h : j ≠ k) : upd f k x j = f j := by simp [upd, h]
theorem b2i_0 (b : Bool) : (b2i b = 0) = (b = false) := by cases b <;> simp [b2i]
theorem b2i_1 (b : Bool) : (b2i b = 1) = (b = true) := by cases b <;> simp [b2i]
theorem b2i_inj (a b : Bool) : (b2i a = b2i b) = (a = b) := by cases a <;> cases b <;> simp [b2i]
theorem ob_some {α β : Type} (a : α) (f : α → Option β) : (some a).bind f = f a := rfl
theorem ob_2 {α β γ : Type} (a : α) (b : β) (f : α → β → Option γ) : bd2 (some (a, b)) f = f a b := rfl
theorem ob_3 {α β γ δ : Type} (a : α) (b : β) (c : γ) (f : α → β → γ → Option δ) : bd3 (some (a, b, c)) f = f a b c := rfl
theorem fu_big : fu = 4096 := rfl
/-! a loop whose counter rises by one: each turn goes on, or ends all -/
theorem lp_up {σ ρ : Type} (L : Nat → σ → Int32 → Option ρ) (E : Nat) (J : Nat → σ → Prop) (P : ρ → Prop)
    (hstop : ∀ n s, J E s → ∃ r, L (n + 1) s (nI E) = some r ∧ P r)
    (hstep : ∀ n s k, k < E → J k s → (∃ s', J (k + 1) s' ∧ L (n + 1) s (nI k) = L n s' (nI (k + 1))) ∨ ∃ r, L (n + 1) s (nI k) = some r ∧ P r) :
    ∀ c k s n, k + c = E → c < n → J k s → ∃ r, L n s (nI k) = some r ∧ P r := by
  intro c
  induction c with
  | zero =>
    intro k s n h1 h2 h3
    cases n with
    | zero => omega
    | succ n =>
      have : k = E := by omega
      subst this
      exact hstop n s h3
  | succ c ih =>
    intro k s n h1 h2 h3
    cases n with
    | zero => omega
    | succ n =>
      rcases hstep n s k (by omega) h3 with ⟨s', h4, h5⟩ | h4
      · rw [h5]
        exact ih (k + 1) s' n (by omega) (by omega) h4
      · exact h4
theorem lp_fu {σ ρ : Type} (L : Nat → σ → Int32 → Option ρ) (k E : Nat) (J : Nat → σ → Prop) (P : ρ → Prop) (s : σ) (hk : k ≤ E) (hE : E < 4000) (h0 : J k s)
    (hstop : ∀ n s, J E s → ∃ r, L (n + 1) s (nI E) = some r ∧ P r)
    (hstep : ∀ n s k, k < E → J k s → (∃ s', J (k + 1) s' ∧ L (n + 1) s (nI k) = L n s' (nI (k + 1))) ∨ ∃ r, L (n + 1) s (nI k) = some r ∧ P r) :
    ∃ r, L fu s (nI k) = some r ∧ P r := lp_up L E J P hstop hstep (E - k) k s fu (by omega) (by rw [fu_big]; omega) h0
/-- how many below n -/
def cnt (p : Nat → Bool) : Nat → Nat
  | 0 => 0
  | n + 1 => cnt p n + (if p n = true then 1 else 0)
theorem cnt_le (p : Nat → Bool) : ∀ n, cnt p n ≤ n
  | 0 => Nat.le_refl _
  | n + 1 => by
    have := cnt_le p n
    simp only [cnt]
    split <;> omega
theorem cnt_congr {p q : Nat → Bool} : ∀ {n : Nat}, (∀ k, k < n → p k = q k) → cnt p n = cnt q n
  | 0, _ => rfl
  | n + 1, h => by
    simp only [cnt]
    rw [cnt_congr (n := n) (fun k hk => h k (by omega)), h n (by omega)]
theorem nle_0 {k : Nat} (hk : k < 2147483648) : ((0 : Int32) ≤ nI k) = (0 ≤ k) := c_le (by decide) hk
theorem nel_0 {k : Nat} (hk : k < 2147483648) : (nI k ≤ (0 : Int32)) = (k ≤ 0) := c_le hk (by decide)
theorem nlt_0 {k : Nat} (hk : k < 2147483648) : ((0 : Int32) < nI k) = (0 < k) := c_lt (by decide) hk
theorem ntl_0 {k : Nat} (hk : k < 2147483648) : (nI k < (0 : Int32)) = (k < 0) := c_lt hk (by decide)
theorem neq_0 {k : Nat} (hk : k < 2147483648) : (nI k = (0 : Int32)) = (k = 0) := c_eq hk (by decide)
theorem nal_0 (k : Nat) : (0 : Int32) + nI k = nI (0 + k) := i_add 0 k
theorem nar_0 (k : Nat) : nI k + (0 : Int32) = nI (k + 0) := i_add k 0
theorem nml_0 (k : Nat) : (0 : Int32) * nI k = nI (0 * k) := i_mul 0 k
theorem nmr_0 (k : Nat) : nI k * (0 : Int32) = nI (k * 0) := i_mul k 0
theorem nle_1 {k : Nat} (hk : k < 2147483648) : ((1 : Int32) ≤ nI k) = (1 ≤ k) := c_le (by decide) hk
theorem nel_1 {k : Nat} (hk : k < 2147483648) : (nI k ≤ (1 : Int32)) = (k ≤ 1) := c_le hk (by decide)
theorem nlt_1 {k : Nat} (hk : k < 2147483648) : ((1 : Int32) < nI k) = (1 < k) := c_lt (by decide) hk
theorem ntl_1 {k : Nat} (hk : k < 2147483648) : (nI k < (1 : Int32)) = (k < 1) := c_lt hk (by decide)
theorem neq_1 {k : Nat} (hk : k < 2147483648) : (nI k = (1 : Int32)) = (k = 1) := c_eq hk (by decide)
theorem nal_1 (k : Nat) : (1 : Int32) + nI k = nI (1 + k) := i_add 1 k
theorem nar_1 (k : Nat) : nI k + (1 : Int32) = nI (k + 1) := i_add k 1
theorem nml_1 (k : Nat) : (1 : Int32) * nI k = nI (1 * k) := i_mul 1 k
theorem nmr_1 (k : Nat) : nI k * (1 : Int32) = nI (k * 1) := i_mul k 1
theorem nle_2 {k : Nat} (hk : k < 2147483648) : ((2 : Int32) ≤ nI k) = (2 ≤ k) := c_le (by decide) hk
theorem nel_2 {k : Nat} (hk : k < 2147483648) : (nI k ≤ (2 : Int32)) = (k ≤ 2) := c_le hk (by decide)
theorem nlt_2 {k : Nat} (hk : k < 2147483648) : ((2 : Int32) < nI k) = (2 < k) := c_lt (by decide) hk
theorem ntl_2 {k : Nat} (hk : k < 2147483648) : (nI k < (2 : Int32)) = (k < 2) := c_lt hk (by decide)
theorem neq_2 {k : Nat} (hk : k < 2147483648) : (nI k = (2 : Int32)) = (k = 2) := c_eq hk (by decide)
theorem nal_2 (k : Nat) : (2 : Int32) + nI k = nI (2 + k) := i_add 2 k
theorem nar_2 (k : Nat) : nI k + (2 : Int32) = nI (k + 2) := i_add k 2
theorem nml_2 (k : Nat) : (2 : Int32) * nI k = nI (2 * k) := i_mul 2 k
theorem nmr_2 (k : Nat) : nI k * (2 : Int32) = nI (k * 2) := i_mul k 2
theorem nle_3 {k : Nat} (hk : k < 2147483648) : ((3 : Int32) ≤ nI k) = (3 ≤ k) := c_le (by decide) hk
theorem nel_3 {k : Nat} (hk : k < 2147483648) : (nI k ≤ (3 : Int32)) = (k ≤ 3) := c_le hk (by decide)
theorem nlt_3 {k : Nat} (hk : k < 2147483648) : ((3 : Int32) < nI k) = (3 < k) := c_lt (by decide) hk
theorem ntl_3 {k : Nat} (hk : k < 2147483648) : (nI k < (3 : Int32)) = (k < 3) := c_lt hk (by decide)
theorem neq_3 {k : Nat} (hk : k < 2147483648) : (nI k = (3 : Int32)) = (k = 3) := c_eq hk (by decide)
theorem nal_3 (k : Nat) : (3 : Int32) + nI k = nI (3 + k) := i_add 3 k
theorem nar_3 (k : Nat) : nI k + (3 : Int32) = nI (k + 3) := i_add k 3
theorem nml_3 (k : Nat) : (3 : Int32) * nI k = nI (3 * k) := i_mul 3 k
theorem nmr_3 (k : Nat) : nI k * (3 : Int32) = nI (k * 3) := i_mul k 3
theorem nle_4 {k : Nat} (hk : k < 2147483648) : ((4 : Int32) ≤ nI k) = (4 ≤ k) := c_le (by decide) hk
theorem nel_4 {k : Nat} (hk : k < 2147483648) : (nI k ≤ (4 : Int32)) = (k ≤ 4) := c_le hk (by decide)
theorem nlt_4 {k : Nat} (hk : k < 2147483648) : ((4 : Int32) < nI k) = (4 < k) := c_lt (by decide) hk
theorem ntl_4 {k : Nat} (hk : k < 2147483648) : (nI k < (4 : Int32)) = (k < 4) := c_lt hk (by decide)
theorem neq_4 {k : Nat} (hk : k < 2147483648) : (nI k = (4 : Int32)) = (k = 4) := c_eq hk (by decide)
theorem nal_4 (k : Nat) : (4 : Int32) + nI k = nI (4 + k) := i_add 4 k
theorem nar_4 (k : Nat) : nI k + (4 : Int32) = nI (k + 4) := i_add k 4
theorem nml_4 (k : Nat) : (4 : Int32) * nI k = nI (4 * k) := i_mul 4 k
theorem nmr_4 (k : Nat) : nI k * (4 : Int32) = nI (k * 4) := i_mul k 4
theorem nle_5 {k : Nat} (hk : k < 2147483648) : ((5 : Int32) ≤ nI k) = (5 ≤ k) := c_le (by decide) hk
theorem nel_5 {k : Nat} (hk : k < 2147483648) : (nI k ≤ (5 : Int32)) = (k ≤ 5) := c_le hk (by decide)
theorem nlt_5 {k : Nat} (hk : k < 2147483648) : ((5 : Int32) < nI k) = (5 < k) := c_lt (by decide) hk
theorem ntl_5 {k : Nat} (hk : k < 2147483648) : (nI k < (5 : Int32)) = (k < 5) := c_lt hk (by decide)
theorem neq_5 {k : Nat} (hk : k < 2147483648) : (nI k = (5 : Int32)) = (k = 5) := c_eq hk (by decide)
theorem nal_5 (k : Nat) : (5 : Int32) + nI k = nI (5 + k) := i_add 5 k
theorem nar_5 (k : Nat) : nI k + (5 : Int32) = nI (k + 5) := i_add k 5
theorem nml_5 (k : Nat) : (5 : Int32) * nI k = nI (5 * k) := i_mul 5 k
theorem nmr_5 (k : Nat) : nI k * (5 : Int32) = nI (k * 5) := i_mul k 5
theorem nle_6 {k : Nat} (hk : k < 2147483648) : ((6 : Int32) ≤ nI k) = (6 ≤ k) := c_le (by decide) hk
theorem nel_6 {k : Nat} (hk : k < 2147483648) : (nI k ≤ (6 : Int32)) = (k ≤ 6) := c_le hk (by decide)
theorem nlt_6 {k : Nat} (hk : k < 2147483648) : ((6 : Int32) < nI k) = (6 < k) := c_lt (by decide) hk
theorem ntl_6 {k : Nat} (hk : k < 2147483648) : (nI k < (6 : Int32)) = (k < 6) := c_lt hk (by decide)
theorem neq_6 {k : Nat} (hk : k < 2147483648) : (nI k = (6 : Int32)) = (k = 6) := c_eq hk (by decide)
theorem nal_6 (k : Nat) : (6 : Int32) + nI k = nI (6 + k) := i_add 6 k
theorem nar_6 (k : Nat) : nI k + (6 : Int32) = nI (k + 6) := i_add k 6
theorem nml_6 (k : Nat) : (6 : Int32) * nI k = nI (6 * k) := i_mul 6 k
theorem nmr_6 (k : Nat) : nI k * (6 : Int32) = nI (k * 6) := i_mul k 6
theorem nle_7 {k : Nat} (hk : k < 2147483648) : ((7 : Int32) ≤ nI k) = (7 ≤ k) := c_le (by decide) hk
theorem nel_7 {k : Nat} (hk : k < 2147483648) : (nI k ≤ (7 : Int32)) = (k ≤ 7) := c_le hk (by decide)
theorem nlt_7 {k : Nat} (hk : k < 2147483648) : ((7 : Int32) < nI k) = (7 < k) := c_lt (by decide) hk
theorem ntl_7 {k : Nat} (hk : k < 2147483648) : (nI k < (7 : Int32)) = (k < 7) := c_lt hk (by decide)
theorem neq_7 {k : Nat} (hk : k < 2147483648) : (nI k = (7 : Int32)) = (k = 7) := c_eq hk (by decide)
theorem nal_7 (k : Nat) : (7 : Int32) + nI k = nI (7 + k) := i_add 7 k
theorem nar_7 (k : Nat) : nI k + (7 : Int32) = nI (k + 7) := i_add k 7
theorem nml_7 (k : Nat) : (7 : Int32) * nI k = nI (7 * k) := i_mul 7 k
theorem nmr_7 (k : Nat) : nI k * (7 : Int32) = nI (k * 7) := i_mul k 7
theorem nle_8 {k : Nat} (hk : k < 2147483648) : ((8 : Int32) ≤ nI k) = (8 ≤ k) := c_le (by decide) hk
theorem nel_8 {k : Nat} (hk : k < 2147483648) : (nI k ≤ (8 : Int32)) = (k ≤ 8) := c_le hk (by decide)
theorem nlt_8 {k : Nat} (hk : k < 2147483648) : ((8 : Int32) < nI k) = (8 < k) := c_lt (by decide) hk
theorem ntl_8 {k : Nat} (hk : k < 2147483648) : (nI k < (8 : Int32)) = (k < 8) := c_lt hk (by decide)
theorem neq_8 {k : Nat} (hk : k < 2147483648) : (nI k = (8 : Int32)) = (k = 8) := c_eq hk (by decide)
theorem nal_8 (k : Nat) : (8 : Int32) + nI k = nI (8 + k) := i_add 8 k
theorem nar_8 (k : Nat) : nI k + (8 : Int32) = nI (k + 8) := i_add k 8
theorem nml_8 (k : Nat) : (8 : Int32) * nI k = nI (8 * k) := i_mul 8 k
theorem nmr_8 (k : Nat) : nI k * (8 : Int32) = nI (k * 8) := i_mul k 8
theorem nle_9 {k : Nat} (hk : k < 2147483648) : ((9 : Int32) ≤ nI k) = (9 ≤ k) := c_le (by decide) hk
theorem nel_9 {k : Nat} (hk : k < 2147483648) : (nI k ≤ (9 : Int32)) = (k ≤ 9) := c_le hk (by decide)
theorem nlt_9 {k : Nat} (hk : k < 2147483648) : ((9 : Int32) < nI k) = (9 < k) := c_lt (by decide) hk
theorem ntl_9 {k : Nat} (hk : k < 2147483648) : (nI k < (9 : Int32)) = (k < 9) := c_lt hk (by decide)
theorem neq_9 {k : Nat} (hk : k < 2147483648) : (nI k = (9 : Int32)) = (k = 9) := c_eq hk (by decide)
theorem nal_9 (k : Nat) : (9 : Int32) + nI k = nI (9 + k) := i_add 9 k
theorem nar_9 (k : Nat) : nI k + (9 : Int32) = nI (k + 9) := i_add k 9
theorem nml_9 (k : Nat) : (9 : Int32) * nI k = nI (9 * k) := i_mul 9 k
theorem nmr_9 (k : Nat) : nI k * (9 : Int32) = nI (k * 9) := i_mul k 9
theorem nle_10 {k : Nat} (hk : k < 2147483648) : ((10 : Int32) ≤ nI k) = (10 ≤ k) := c_le (by decide) hk
theorem nel_10 {k : Nat} (hk : k < 2147483648) : (nI k ≤ (10 : Int32)) = (k ≤ 10) := c_le hk (by decide)
theorem nlt_10 {k : Nat} (hk : k < 2147483648) : ((10 : Int32) < nI k) = (10 < k) := c_lt (by decide) hk
theorem ntl_10 {k : Nat} (hk : k < 2147483648) : (nI k < (10 : Int32)) = (k < 10) := c_lt hk (by decide)
theorem neq_10 {k : Nat} (hk : k < 2147483648) : (nI k = (10 : Int32)) = (k = 10) := c_eq hk (by decide)
theorem nal_10 (k : Nat) : (10 : Int32) + nI k = nI (10 + k) := i_add 10 k
theorem nar_10 (k : Nat) : nI k + (10 : Int32) = nI (k + 10) := i_add k 10
theorem nml_10 (k : Nat) : (10 : Int32) * nI k = nI (10 * k) := i_mul 10 k
theorem nmr_10 (k : Nat) : nI k * (10 : Int32) = nI (k * 10) := i_mul k 10
theorem nle_15 {k : Nat} (hk : k < 2147483648) : ((15 : Int32) ≤ nI k) = (15 ≤ k) := c_le (by decide) hk
theorem nel_15 {k : Nat} (hk : k < 2147483648) : (nI k ≤ (15 : Int32)) = (k ≤ 15) := c_le hk (by decide)
theorem nlt_15 {k : Nat} (hk : k < 2147483648) : ((15 : Int32) < nI k) = (15 < k) := c_lt (by decide) hk
theorem ntl_15 {k : Nat} (hk : k < 2147483648) : (nI k < (15 : Int32)) = (k < 15) := c_lt hk (by decide)
theorem neq_15 {k : Nat} (hk : k < 2147483648) : (nI k = (15 : Int32)) = (k = 15) := c_eq hk (by decide)
theorem nal_15 (k : Nat) : (15 : Int32) + nI k = nI (15 + k) := i_add 15 k
theorem nar_15 (k : Nat) : nI k + (15 : Int32) = nI (k + 15) := i_add k 15
theorem nml_15 (k : Nat) : (15 : Int32) * nI k = nI (15 * k) := i_mul 15 k
theorem nmr_15 (k : Nat) : nI k * (15 : Int32) = nI (k * 15) := i_mul k 15
theorem nle_16 {k : Nat} (hk : k < 2147483648) : ((16 : Int32) ≤ nI k) = (16 ≤ k) := c_le (by decide) hk
theorem nel_16 {k : Nat} (hk : k < 2147483648) : (nI k ≤ (16 : Int32)) = (k ≤ 16) := c_le hk (by decide)
theorem nlt_16 {k : Nat} (hk : k < 2147483648) : ((16 : Int32) < nI k) = (16 < k) := c_lt (by decide) hk
theorem ntl_16 {k : Nat} (hk : k < 2147483648) : (nI k < (16 : Int32)) = (k < 16) := c_lt hk (by decide)
theorem neq_16 {k : Nat} (hk : k < 2147483648) : (nI k = (16 : Int32)) = (k = 16) := c_eq hk (by decide)
theorem nal_16 (k : Nat) : (16 : Int32) + nI k = nI (16 + k) := i_add 16 k
theorem nar_16 (k : Nat) : nI k + (16 : Int32) = nI (k + 16) := i_add k 16
theorem nml_16 (k : Nat) : (16 : Int32) * nI k = nI (16 * k) := i_mul 16 k
theorem nmr_16 (k : Nat) : nI k * (16 : Int32) = nI (k * 16) := i_mul k 16
theorem nle_31 {k : Nat} (hk : k < 2147483648) : ((31 : Int32) ≤ nI k) = (31 ≤ k) := c_le (by decide) hk
theorem nel_31 {k : Nat} (hk : k < 2147483648) : (nI k ≤ (31 : Int32)) = (k ≤ 31) := c_le hk (by decide)
theorem nlt_31 {k : Nat} (hk : k < 2147483648) : ((31 : Int32) < nI k) = (31 < k) := c_lt (by decide) hk
theorem ntl_31 {k : Nat} (hk : k < 2147483648) : (nI k < (31 : Int32)) = (k < 31) := c_lt hk (by decide)
theorem neq_31 {k : Nat} (hk : k < 2147483648) : (nI k = (31 : Int32)) = (k = 31) := c_eq hk (by decide)
theorem nal_31 (k : Nat) : (31 : Int32) + nI k = nI (31 + k) := i_add 31 k
theorem nar_31 (k : Nat) : nI k + (31 : Int32) = nI (k + 31) := i_add k 31
theorem nml_31 (k : Nat) : (31 : Int32) * nI k = nI (31 * k) := i_mul 31 k
theorem nmr_31 (k : Nat) : nI k * (31 : Int32) = nI (k * 31) := i_mul k 31
theorem nle_32 {k : Nat} (hk : k < 2147483648) : ((32 : Int32) ≤ nI k) = (32 ≤ k) := c_le (by decide) hk
theorem nel_32 {k : Nat} (hk : k < 2147483648) : (nI k ≤ (32 : Int32)) = (k ≤ 32) := c_le hk (by decide)
theorem nlt_32 {k : Nat} (hk : k < 2147483648) : ((32 : Int32) < nI k) = (32 < k) := c_lt (by decide) hk
theorem ntl_32 {k : Nat} (hk : k < 2147483648) : (nI k < (32 : Int32)) = (k < 32) := c_lt hk (by decide)
theorem neq_32 {k : Nat} (hk : k < 2147483648) : (nI k = (32 : Int32)) = (k = 32) := c_eq hk (by decide)
theorem nal_32 (k : Nat) : (32 : Int32) + nI k = nI (32 + k) := i_add 32 k
theorem nar_32 (k : Nat) : nI k + (32 : Int32) = nI (k + 32) := i_add k 32
theorem nml_32 (k : Nat) : (32 : Int32) * nI k = nI (32 * k) := i_mul 32 k
theorem nmr_32 (k : Nat) : nI k * (32 : Int32) = nI (k * 32) := i_mul k 32
theorem nle_48 {k : Nat} (hk : k < 2147483648) : ((48 : Int32) ≤ nI k) = (48 ≤ k) := c_le (by decide) hk
theorem nel_48 {k : Nat} (hk : k < 2147483648) : (nI k ≤ (48 : Int32)) = (k ≤ 48) := c_le hk (by decide)
theorem nlt_48 {k : Nat} (hk : k < 2147483648) : ((48 : Int32) < nI k) = (48 < k) := c_lt (by decide) hk
theorem ntl_48 {k : Nat} (hk : k < 2147483648) : (nI k < (48 : Int32)) = (k < 48) := c_lt hk (by decide)
theorem neq_48 {k : Nat} (hk : k < 2147483648) : (nI k = (48 : Int32)) = (k = 48) := c_eq hk (by decide)
theorem nal_48 (k : Nat) : (48 : Int32) + nI k = nI (48 + k) := i_add 48 k
theorem nar_48 (k : Nat) : nI k + (48 : Int32) = nI (k + 48) := i_add k 48
theorem nml_48 (k : Nat) : (48 : Int32) * nI k = nI (48 * k) := i_mul 48 k
theorem nmr_48 (k : Nat) : nI k * (48 : Int32) = nI (k * 48) := i_mul k 48
theorem nle_57 {k : Nat} (hk : k < 2147483648) : ((57 : Int32) ≤ nI k) = (57 ≤ k) := c_le (by decide) hk
theorem nel_57 {k : Nat} (hk : k < 2147483648) : (nI k ≤ (57 : Int32)) = (k ≤ 57) := c_le hk (by decide)
theorem nlt_57 {k : Nat} (hk : k < 2147483648) : ((57 : Int32) < nI k) = (57 < k) := c_lt (by decide) hk
theorem ntl_57 {k : Nat} (hk : k < 2147483648) : (nI k < (57 : Int32)) = (k < 57) := c_lt hk (by decide)
theorem neq_57 {k : Nat} (hk : k < 2147483648) : (nI k = (57 : Int32)) = (k = 57) := c_eq hk (by decide)
theorem nal_57 (k : Nat) : (57 : Int32) + nI k = nI (57 + k) := i_add 57 k
theorem nar_57 (k : Nat) : nI k + (57 : Int32) = nI (k + 57) := i_add k 57
theorem nml_57 (k : Nat) : (57 : Int32) * nI k = nI (57 * k) := i_mul 57 k
theorem nmr_57 (k : Nat) : nI k * (57 : Int32) = nI (k * 57) := i_mul k 57
theorem nle_59 {k : Nat} (hk : k < 2147483648) : ((59 : Int32) ≤ nI k) = (59 ≤ k) := c_le (by decide) hk
theorem nel_59 {k : Nat} (hk : k < 2147483648) : (nI k ≤ (59 : Int32)) = (k ≤ 59) := c_le hk (by decide)
theorem nlt_59 {k : Nat} (hk : k < 2147483648) : ((59 : Int32) < nI k) = (59 < k) := c_lt (by decide) hk
theorem ntl_59 {k : Nat} (hk : k < 2147483648) : (nI k < (59 : Int32)) = (k < 59) := c_lt hk (by decide)
theorem neq_59 {k : Nat} (hk : k < 2147483648) : (nI k = (59 : Int32)) = (k = 59) := c_eq hk (by decide)
theorem nal_59 (k : Nat) : (59 : Int32) + nI k = nI (59 + k) := i_add 59 k
theorem nar_59 (k : Nat) : nI k + (59 : Int32) = nI (k + 59) := i_add k 59
theorem nml_59 (k : Nat) : (59 : Int32) * nI k = nI (59 * k) := i_mul 59 k
theorem nmr_59 (k : Nat) : nI k * (59 : Int32) = nI (k * 59) := i_mul k 59
theorem nle_63 {k : Nat} (hk : k < 2147483648) : ((63 : Int32) ≤ nI k) = (63 ≤ k) := c_le (by decide) hk
theorem nel_63 {k : Nat} (hk : k < 2147483648) : (nI k ≤ (63 : Int32)) = (k ≤ 63) := c_le hk (by decide)
theorem nlt_63 {k : Nat} (hk : k < 2147483648) : ((63 : Int32) < nI k) = (63 < k) := c_lt (by decide) hk
theorem ntl_63 {k : Nat} (hk : k < 2147483648) : (nI k < (63 : Int32)) = (k < 63) := c_lt hk (by decide)
theorem neq_63 {k : Nat} (hk : k < 2147483648) : (nI k = (63 : Int32)) = (k = 63) := c_eq hk (by decide)
theorem nal_63 (k : Nat) : (63 : Int32) + nI k = nI (63 + k) := i_add 63 k
theorem nar_63 (k : Nat) : nI k + (63 : Int32) = nI (k + 63) := i_add k 63
theorem nml_63 (k : Nat) : (63 : Int32) * nI k = nI (63 * k) := i_mul 63 k
theorem nmr_63 (k : Nat) : nI k * (63 : Int32) = nI (k * 63) := i_mul k 63
theorem nle_64 {k : Nat} (hk : k < 2147483648) : ((64 : Int32) ≤ nI k) = (64 ≤ k) := c_le (by decide) hk
theorem nel_64 {k : Nat} (hk : k < 2147483648) : (nI k ≤ (64 : Int32)) = (k ≤ 64) := c_le hk (by decide)
theorem nlt_64 {k : Nat} (hk : k < 2147483648) : ((64 : Int32) < nI k) = (64 < k) := c_lt (by decide) hk
theorem ntl_64 {k : Nat} (hk : k < 2147483648) : (nI k < (64 : Int32)) = (k < 64) := c_lt hk (by decide)
theorem neq_64 {k : Nat} (hk : k < 2147483648) : (nI k = (64 : Int32)) = (k = 64) := c_eq hk (by decide)
theorem nal_64 (k : Nat) : (64 : Int32) + nI k = nI (64 + k) := i_add 64 k
theorem nar_64 (k : Nat) : nI k + (64 : Int32) = nI (k + 64) := i_add k 64
theorem nml_64 (k : Nat) : (64 : Int32) * nI k = nI (64 * k) := i_mul 64 k
theorem nmr_64 (k : Nat) : nI k * (64 : Int32) = nI (k * 64) := i_mul k 64
theorem nle_75 {k : Nat} (hk : k < 2147483648) : ((75 : Int32) ≤ nI k) = (75 ≤ k) := c_le (by decide) hk
theorem nel_75 {k : Nat} (hk : k < 2147483648) : (nI k ≤ (75 : Int32)) = (k ≤ 75) := c_le hk (by decide)
theorem nlt_75 {k : Nat} (hk : k < 2147483648) : ((75 : Int32) < nI k) = (75 < k) := c_lt (by decide) hk
theorem ntl_75 {k : Nat} (hk : k < 2147483648) : (nI k < (75 : Int32)) = (k < 75) := c_lt hk (by decide)
theorem neq_75 {k : Nat} (hk : k < 2147483648) : (nI k = (75 : Int32)) = (k = 75) := c_eq hk (by decide)
theorem nal_75 (k : Nat) : (75 : Int32) + nI k = nI (75 + k) := i_add 75 k
theorem nar_75 (k : Nat) : nI k + (75 : Int32) = nI (k + 75) := i_add k 75
theorem nml_75 (k : Nat) : (75 : Int32) * nI k = nI (75 * k) := i_mul 75 k
theorem nmr_75 (k : Nat) : nI k * (75 : Int32) = nI (k * 75) := i_mul k 75
theorem nle_80 {k : Nat} (hk : k < 2147483648) : ((80 : Int32) ≤ nI k) = (80 ≤ k) := c_le (by decide) hk
theorem nel_80 {k : Nat} (hk : k < 2147483648) : (nI k ≤ (80 : Int32)) = (k ≤ 80) := c_le hk (by decide)
theorem nlt_80 {k : Nat} (hk : k < 2147483648) : ((80 : Int32) < nI k) = (80 < k) := c_lt (by decide) hk
theorem ntl_80 {k : Nat} (hk : k < 2147483648) : (nI k < (80 : Int32)) = (k < 80) := c_lt hk (by decide)
theorem neq_80 {k : Nat} (hk : k < 2147483648) : (nI k = (80 : Int32)) = (k = 80) := c_eq hk (by decide)
theorem nal_80 (k : Nat) : (80 : Int32) + nI k = nI (80 + k) := i_add 80 k
theorem nar_80 (k : Nat) : nI k + (80 : Int32) = nI (k + 80) := i_add k 80
theorem nml_80 (k : Nat) : (80 : Int32) * nI k = nI (80 * k) := i_mul 80 k
theorem nmr_80 (k : Nat) : nI k * (80 : Int32) = nI (k * 80) := i_mul k 80
theorem nle_96 {k : Nat} (hk : k < 2147483648) : ((96 : Int32) ≤ nI k) = (96 ≤ k) := c_le (by decide) hk
theorem nel_96 {k : Nat} (hk : k < 2147483648) : (nI k ≤ (96 : Int32)) = (k ≤ 96) := c_le hk (by decide)
theorem nlt_96 {k : Nat} (hk : k < 2147483648) : ((96 : Int32) < nI k) = (96 < k) := c_lt (by decide) hk
theorem ntl_96 {k : Nat} (hk : k < 2147483648) : (nI k < (96 : Int32)) = (k < 96) := c_lt hk (by decide)
theorem neq_96 {k : Nat} (hk : k < 2147483648) : (nI k = (96 : Int32)) = (k = 96) := c_eq hk (by decide)
theorem nal_96 (k : Nat) : (96 : Int32) + nI k = nI (96 + k) := i_add 96 k
theorem nar_96 (k : Nat) : nI k + (96 : Int32) = nI (k + 96) := i_add k 96
theorem nml_96 (k : Nat) : (96 : Int32) * nI k = nI (96 * k) := i_mul 96 k
theorem nmr_96 (k : Nat) : nI k * (96 : Int32) = nI (k * 96) := i_mul k 96
theorem nle_99 {k : Nat} (hk : k < 2147483648) : ((99 : Int32) ≤ nI k) = (99 ≤ k) := c_le (by decide) hk
theorem nel_99 {k : Nat} (hk : k < 2147483648) : (nI k ≤ (99 : Int32)) = (k ≤ 99) := c_le hk (by decide)
theorem nlt_99 {k : Nat} (hk : k < 2147483648) : ((99 : Int32) < nI k) = (99 < k) := c_lt (by decide) hk
theorem ntl_99 {k : Nat} (hk : k < 2147483648) : (nI k < (99 : Int32)) = (k < 99) := c_lt hk (by decide)
theorem neq_99 {k : Nat} (hk : k < 2147483648) : (nI k = (99 : Int32)) = (k = 99) := c_eq hk (by decide)
theorem nal_99 (k : Nat) : (99 : Int32) + nI k = nI (99 + k) := i_add 99 k
theorem nar_99 (k : Nat) : nI k + (99 : Int32) = nI (k + 99) := i_add k 99
theorem nml_99 (k : Nat) : (99 : Int32) * nI k = nI (99 * k) := i_mul 99 k
theorem nmr_99 (k : Nat) : nI k * (99 : Int32) = nI (k * 99) := i_mul k 99
theorem nle_100 {k : Nat} (hk : k < 2147483648) : ((100 : Int32) ≤ nI k) = (100 ≤ k) := c_le (by decide) hk
theorem nel_100 {k : Nat} (hk : k < 2147483648) : (nI k ≤ (100 : Int32)) = (k ≤ 100) := c_le hk (by decide)
theorem nlt_100 {k : Nat} (hk : k < 2147483648) : ((100 : Int32) < nI k) = (100 < k) := c_lt (by decide) hk
theorem ntl_100 {k : Nat} (hk : k < 2147483648) : (nI k < (100 : Int32)) = (k < 100) := c_lt hk (by decide)
theorem neq_100 {k : Nat} (hk : k < 2147483648) : (nI k = (100 : Int32)) = (k = 100) := c_eq hk (by decide)
theorem nal_100 (k : Nat) : (100 : Int32) + nI k = nI (100 + k) := i_add 100 k
theorem nar_100 (k : Nat) : nI k + (100 : Int32) = nI (k + 100) := i_add k 100
theorem nml_100 (k : Nat) : (100 : Int32) * nI k = nI (100 * k) := i_mul 100 k
theorem nmr_100 (k : Nat) : nI k * (100 : Int32) = nI (k * 100) := i_mul k 100
theorem nle_127 {k : Nat} (hk : k < 2147483648) : ((127 : Int32) ≤ nI k) = (127 ≤ k) := c_le (by decide) hk
theorem nel_127 {k : Nat} (hk : k < 2147483648) : (nI k ≤ (127 : Int32)) = (k ≤ 127) := c_le hk (by decide)
theorem nlt_127 {k : Nat} (hk : k < 2147483648) : ((127 : Int32) < nI k) = (127 < k) := c_lt (by decide) hk
theorem ntl_127 {k : Nat} (hk : k < 2147483648) : (nI k < (127 : Int32)) = (k < 127) := c_lt hk (by decide)
theorem neq_127 {k : Nat} (hk : k < 2147483648) : (nI k = (127 : Int32)) = (k = 127) := c_eq hk (by decide)
theorem nal_127 (k : Nat) : (127 : Int32) + nI k = nI (127 + k) := i_add 127 k
theorem nar_127 (k : Nat) : nI k + (127 : Int32) = nI (k + 127) := i_add k 127
theorem nml_127 (k : Nat) : (127 : Int32) * nI k = nI (127 * k) := i_mul 127 k
theorem nmr_127 (k : Nat) : nI k * (127 : Int32) = nI (k * 127) := i_mul k 127
theorem nle_128 {k : Nat} (hk : k < 2147483648) : ((128 : Int32) ≤ nI k) = (128 ≤ k) := c_le (by decide) hk
theorem nel_128 {k : Nat} (hk : k < 2147483648) : (nI k ≤ (128 : Int32)) = (k ≤ 128) := c_le hk (by decide)
theorem nlt_128 {k : Nat} (hk : k < 2147483648) : ((128 : Int32) < nI k) = (128 < k) := c_lt (by decide) hk
theorem ntl_128 {k : Nat} (hk : k < 2147483648) : (nI k < (128 : Int32)) = (k < 128) := c_lt hk (by decide)
theorem neq_128 {k : Nat} (hk : k < 2147483648) : (nI k = (128 : Int32)) = (k = 128) := c_eq hk (by decide)
theorem nal_128 (k : Nat) : (128 : Int32) + nI k = nI (128 + k) := i_add 128 k
theorem nar_128 (k : Nat) : nI k + (128 : Int32) = nI (k + 128) := i_add k 128
theorem nml_128 (k : Nat) : (128 : Int32) * nI k = nI (128 * k) := i_mul 128 k
theorem nmr_128 (k : Nat) : nI k * (128 : Int32) = nI (k * 128) := i_mul k 128
theorem nle_150 {k : Nat} (hk : k < 2147483648) : ((150 : Int32) ≤ nI k) = (150 ≤ k) := c_le (by decide) hk
theorem nel_150 {k : Nat} (hk : k < 2147483648) : (nI k ≤ (150 : Int32)) = (k ≤ 150) := c_le hk (by decide)
theorem nlt_150 {k : Nat} (hk : k < 2147483648) : ((150 : Int32) < nI k) = (150 < k) := c_lt (by decide) hk
theorem ntl_150 {k : Nat} (hk : k < 2147483648) : (nI k < (150 : Int32)) = (k < 150) := c_lt hk (by decide)
theorem neq_150 {k : Nat} (hk : k < 2147483648) : (nI k = (150 : Int32)) = (k = 150) := c_eq hk (by decide)
theorem nal_150 (k : Nat) : (150 : Int32) + nI k = nI (150 + k) := i_add 150 k
theorem nar_150 (k : Nat) : nI k + (150 : Int32) = nI (k + 150) := i_add k 150
theorem nml_150 (k : Nat) : (150 : Int32) * nI k = nI (150 * k) := i_mul 150 k
theorem nmr_150 (k : Nat) : nI k * (150 : Int32) = nI (k * 150) := i_mul k 150
theorem nle_192 {k : Nat} (hk : k < 2147483648) : ((192 : Int32) ≤ nI k) = (192 ≤ k) := c_le (by decide) hk
theorem nel_192 {k : Nat} (hk : k < 2147483648) : (nI k ≤ (192 : Int32)) = (k ≤ 192) := c_le hk (by decide)
theorem nlt_192 {k : Nat} (hk : k < 2147483648) : ((192 : Int32) < nI k) = (192 < k) := c_lt (by decide) hk
theorem ntl_192 {k : Nat} (hk : k < 2147483648) : (nI k < (192 : Int32)) = (k < 192) := c_lt hk (by decide)
theorem neq_192 {k : Nat} (hk : k < 2147483648) : (nI k = (192 : Int32)) = (k = 192) := c_eq hk (by decide)
theorem nal_192 (k : Nat) : (192 : Int32) + nI k = nI (192 + k) := i_add 192 k
theorem nar_192 (k : Nat) : nI k + (192 : Int32) = nI (k + 192) := i_add k 192
theorem nml_192 (k : Nat) : (192 : Int32) * nI k = nI (192 * k) := i_mul 192 k
theorem nmr_192 (k : Nat) : nI k * (192 : Int32) = nI (k * 192) := i_mul k 192
theorem nle_255 {k : Nat} (hk : k < 2147483648) : ((255 : Int32) ≤ nI k) = (255 ≤ k) := c_le (by decide) hk
theorem nel_255 {k : Nat} (hk : k < 2147483648) : (nI k ≤ (255 : Int32)) = (k ≤ 255) := c_le hk (by decide)
theorem nlt_255 {k : Nat} (hk : k < 2147483648) : ((255 : Int32) < nI k) = (255 < k) := c_lt (by decide) hk
theorem ntl_255 {k : Nat} (hk : k < 2147483648) : (nI k < (255 : Int32)) = (k < 255) := c_lt hk (by decide)
theorem neq_255 {k : Nat} (hk : k < 2147483648) : (nI k = (255 : Int32)) = (k = 255) := c_eq hk (by decide)
theorem nal_255 (k : Nat) : (255 : Int32) + nI k = nI (255 + k) := i_add 255 k
theorem nar_255 (k : Nat) : nI k + (255 : Int32) = nI (k + 255) := i_add k 255
theorem nml_255 (k : Nat) : (255 : Int32) * nI k = nI (255 * k) := i_mul 255 k
theorem nmr_255 (k : Nat) : nI k * (255 : Int32) = nI (k * 255) := i_mul k 255
theorem nle_256 {k : Nat} (hk : k < 2147483648) : ((256 : Int32) ≤ nI k) = (256 ≤ k) := c_le (by decide) hk
theorem nel_256 {k : Nat} (hk : k < 2147483648) : (nI k ≤ (256 : Int32)) = (k ≤ 256) := c_le hk (by decide)
theorem nlt_256 {k : Nat} (hk : k < 2147483648) : ((256 : Int32) < nI k) = (256 < k) := c_lt (by decide) hk
theorem ntl_256 {k : Nat} (hk : k < 2147483648) : (nI k < (256 : Int32)) = (k < 256) := c_lt hk (by decide)
theorem neq_256 {k : Nat} (hk : k < 2147483648) : (nI k = (256 : Int32)) = (k = 256) := c_eq hk (by decide)
theorem nal_256 (k : Nat) : (256 : Int32) + nI k = nI (256 + k) := i_add 256 k
theorem nar_256 (k : Nat) : nI k + (256 : Int32) = nI (k + 256) := i_add k 256
theorem nml_256 (k : Nat) : (256 : Int32) * nI k = nI (256 * k) := i_mul 256 k
theorem nmr_256 (k : Nat) : nI k * (256 : Int32) = nI (k * 256) := i_mul k 256
theorem nle_257 {k : Nat} (hk : k < 2147483648) : ((257 : Int32) ≤ nI k) = (257 ≤ k) := c_le (by decide) hk
theorem nel_257 {k : Nat} (hk : k < 2147483648) : (nI k ≤ (257 : Int32)) = (k ≤ 257) := c_le hk (by decide)
theorem nlt_257 {k : Nat} (hk : k < 2147483648) : ((257 : Int32) < nI k) = (257 < k) := c_lt (by decide) hk
theorem ntl_257 {k : Nat} (hk : k < 2147483648) : (nI k < (257 : Int32)) = (k < 257) := c_lt hk (by decide)
theorem neq_257 {k : Nat} (hk : k < 2147483648) : (nI k = (257 : Int32)) = (k = 257) := c_eq hk (by decide)
theorem nal_257 (k : Nat) : (257 : Int32) + nI k = nI (257 + k) := i_add 257 k
theorem nar_257 (k : Nat) : nI k + (257 : Int32) = nI (k + 257) := i_add k 257
theorem nml_257 (k : Nat) : (257 : Int32) * nI k = nI (257 * k) := i_mul 257 k
theorem nmr_257 (k : Nat) : nI k * (257 : Int32) = nI (k * 257) := i_mul k 257
theorem nle_258 {k : Nat} (hk : k < 2147483648) : ((258 : Int32) ≤ nI k) = (258 ≤ k) := c_le (by decide) hk
theorem nel_258 {k : Nat} (hk : k < 2147483648) : (nI k ≤ (258 : Int32)) = (k ≤ 258) := c_le hk (by decide)
theorem nlt_258 {k : Nat} (hk : k < 2147483648) : ((258 : Int32) < nI k) = (258 < k) := c_lt (by decide) hk
theorem ntl_258 {k : Nat} (hk : k < 2147483648) : (nI k < (258 : Int32)) = (k < 258) := c_lt hk (by decide)
theorem neq_258 {k : Nat} (hk : k < 2147483648) : (nI k = (258 : Int32)) = (k = 258) := c_eq hk (by decide)
theorem nal_258 (k : Nat) : (258 : Int32) + nI k = nI (258 + k) := i_add 258 k
theorem nar_258 (k : Nat) : nI k + (258 : Int32) = nI (k + 258) := i_add k 258
theorem nml_258 (k : Nat) : (258 : Int32) * nI k = nI (258 * k) := i_mul 258 k
theorem nmr_258 (k : Nat) : nI k * (258 : Int32) = nI (k * 258) := i_mul k 258
theorem nle_450 {k : Nat} (hk : k < 2147483648) : ((450 : Int32) ≤ nI k) = (450 ≤ k) := c_le (by decide) hk
theorem nel_450 {k : Nat} (hk : k < 2147483648) : (nI k ≤ (450 : Int32)) = (k ≤ 450) := c_le hk (by decide)
theorem nlt_450 {k : Nat} (hk : k < 2147483648) : ((450 : Int32) < nI k) = (450 < k) := c_lt (by decide) hk
theorem ntl_450 {k : Nat} (hk : k < 2147483648) : (nI k < (450 : Int32)) = (k < 450) := c_lt hk (by decide)
theorem neq_450 {k : Nat} (hk : k < 2147483648) : (nI k = (450 : Int32)) = (k = 450) := c_eq hk (by decide)
theorem nal_450 (k : Nat) : (450 : Int32) + nI k = nI (450 + k) := i_add 450 k
theorem nar_450 (k : Nat) : nI k + (450 : Int32) = nI (k + 450) := i_add k 450
theorem nml_450 (k : Nat) : (450 : Int32) * nI k = nI (450 * k) := i_mul 450 k
theorem nmr_450 (k : Nat) : nI k * (450 : Int32) = nI (k * 450) := i_mul k 450
theorem nle_1032 {k : Nat} (hk : k < 2147483648) : ((1032 : Int32) ≤ nI k) = (1032 ≤ k) := c_le (by decide) hk
theorem nel_1032 {k : Nat} (hk : k < 2147483648) : (nI k ≤ (1032 : Int32)) = (k ≤ 1032) := c_le hk (by decide)
theorem nlt_1032 {k : Nat} (hk : k < 2147483648) : ((1032 : Int32) < nI k) = (1032 < k) := c_lt (by decide) hk
theorem ntl_1032 {k : Nat} (hk : k < 2147483648) : (nI k < (1032 : Int32)) = (k < 1032) := c_lt hk (by decide)
theorem neq_1032 {k : Nat} (hk : k < 2147483648) : (nI k = (1032 : Int32)) = (k = 1032) := c_eq hk (by decide)
theorem nal_1032 (k : Nat) : (1032 : Int32) + nI k = nI (1032 + k) := i_add 1032 k
theorem nar_1032 (k : Nat) : nI k + (1032 : Int32) = nI (k + 1032) := i_add k 1032
theorem nml_1032 (k : Nat) : (1032 : Int32) * nI k = nI (1032 * k) := i_mul 1032 k
theorem nmr_1032 (k : Nat) : nI k * (1032 : Int32) = nI (k * 1032) := i_mul k 1032
