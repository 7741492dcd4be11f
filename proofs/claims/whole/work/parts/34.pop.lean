/-! ===== PHASE B: how many bits ===== -/
theorem nx_and2 (a b : Nat) : nI a &&& nI b = nI (a &&& b) := by
  apply Int32.toBitVec_inj.1
  show BitVec.ofNat 32 a &&& BitVec.ofNat 32 b = BitVec.ofNat 32 (a &&& b)
  apply BitVec.eq_of_getLsbD_eq
  intro i hi
  simp [hi]
def pc1 (m : Nat) : Nat := m - (m / 2 ^ 1 &&& 1431655765)
def pc2 (m : Nat) : Nat := (m &&& 858993459) + (m / 2 ^ 2 &&& 858993459)
def pc3 (m : Nat) : Nat := (m + m / 2 ^ 4) &&& 252645135
def pc4 (m : Nat) : Nat := m + m / 2 ^ 8
def pc5 (m : Nat) : Nat := m + m / 2 ^ 16
def pcA (m : Nat) : Nat := pc5 (pc4 (pc3 (pc2 (pc1 m)))) &&& 63
theorem and_le_r (a b : Nat) : a &&& b ≤ b := Nat.and_le_right
theorem pc1_ok {m : Nat} (h : m < 65536) : nI m - ((((nI m).toUInt32 >>> ((1 : Int32).toUInt32 &&& Int32.toUInt32 31)).toInt32) &&& 1431655765) = nI (pc1 m) := by
  rw [pk_ushrN (by omega) 1 1 (by decide +kernel), show (1431655765 : Int32) = nI 1431655765 from rfl, nx_and2, i_sub]
  · rfl
  · exact Nat.le_trans Nat.and_le_left (Nat.div_le_self _ _)
theorem pc2_ok {m : Nat} (h : m < 2147483648) : (nI m &&& 858993459) + ((((nI m).toUInt32 >>> ((2 : Int32).toUInt32 &&& Int32.toUInt32 31)).toInt32) &&& 858993459) = nI (pc2 m) := by
  rw [pk_ushrN (by omega) 2 2 (by decide +kernel), show (858993459 : Int32) = nI 858993459 from rfl, nx_and2, nx_and2, i_add]
  rfl
theorem pc3_ok {m : Nat} (h : m < 2147483648) : (nI m + (((nI m).toUInt32 >>> ((4 : Int32).toUInt32 &&& Int32.toUInt32 31)).toInt32)) &&& 252645135 = nI (pc3 m) := by
  rw [pk_ushrN (by omega) 4 4 (by decide +kernel), show (252645135 : Int32) = nI 252645135 from rfl, i_add, nx_and2]
  rfl
theorem pc4_ok {m : Nat} (h : m < 2147483648) : nI m + (((nI m).toUInt32 >>> ((8 : Int32).toUInt32 &&& Int32.toUInt32 31)).toInt32) = nI (pc4 m) := by
  rw [pk_ushrN (by omega) 8 8 (by decide +kernel), i_add]
  rfl
theorem pc5_ok {m : Nat} (h : m < 2147483648) : nI m + (((nI m).toUInt32 >>> ((16 : Int32).toUInt32 &&& Int32.toUInt32 31)).toInt32) = nI (pc5 m) := by
  rw [pk_ushrN (by omega) 16 16 (by decide +kernel), i_add]
  rfl
theorem bitCount_pc {m : Nat} (h : m < 65536) : J6_bitCount_0f7a4 (nI m) = some (nI (pcA m)) := by
  have h1 : pc1 m < 2147483648 := by unfold pc1; omega
  have h2 : pc2 (pc1 m) < 2147483648 := by
    unfold pc2
    have a := and_le_r (pc1 m) 858993459
    have b := and_le_r (pc1 m / 2 ^ 2) 858993459
    omega
  have h3 : pc3 (pc2 (pc1 m)) ≤ 252645135 := and_le_r _ _
  have h4 : pc4 (pc3 (pc2 (pc1 m))) < 2147483648 := by
    unfold pc4
    have := Nat.div_le_self (pc3 (pc2 (pc1 m))) (2 ^ 8)
    omega
  unfold J6_bitCount_0f7a4
  rw [pc1_ok h, pc2_ok h1, pc3_ok h2, pc4_ok (by omega), pc5_ok h4, show (63 : Int32) = nI 63 from rfl, nx_and2]
  rfl
theorem tb_hi {a b t : Nat} (hb : b < 256) : (256 * a + b).testBit t = if t < 8 then b.testBit t else a.testBit (t - 8) := by
  have := Nat.testBit_two_pow_mul_add a (i := 8) (b := b) (by simpa using hb) t
  simpa using this
theorem and_split {a b c d : Nat} (hb : b < 256) (hd : d < 256) : (256 * a + b) &&& (256 * c + d) = 256 * (a &&& c) + (b &&& d) := by
  apply Nat.eq_of_testBit_eq
  intro t
  rw [Nat.testBit_and, tb_hi hb, tb_hi hd, tb_hi (Nat.lt_of_le_of_lt Nat.and_le_left hb)]
  split <;> rw [Nat.testBit_and]
def q1 (x : Nat) : Nat := x - (x / 2 &&& 85)
def q2 (x : Nat) : Nat := (x &&& 51) + (x / 4 &&& 51)
def q3 (x : Nat) : Nat := (x + x / 16) &&& 15
theorem q_all : ∀ x, x < 256 → q1 x < 256 ∧ (x / 2 &&& 85) ≤ x ∧ q2 (q1 x) ≤ 68 ∧ q2 (q1 x) % 16 ≤ 4 ∧ q3 (q2 (q1 x)) ≤ 8 ∧ q3 (q2 (q1 x)) = cnt (fun t => x.testBit t) 8 := by decide +kernel
theorem m55 : ∀ x, x < 256 → (x &&& 85) = (x % 128 &&& 85) := by decide +kernel
theorem m33 : ∀ x, x < 256 → (x &&& 51) = (x % 64 &&& 51) := by decide +kernel
theorem pc1_s {a b : Nat} (ha : a < 256) (hb : b < 256) : pc1 (256 * a + b) = 256 * q1 a + q1 b := by
  unfold pc1 q1
  have e : (256 * a + b) / 2 ^ 1 = 256 * (a / 2) + (128 * (a % 2) + b / 2) := by omega
  have c : (1431655765 : Nat) = 256 * 5592405 + 85 := by decide
  rw [e, c, and_split (by omega) (by decide), m55 _ (by omega), show (128 * (a % 2) + b / 2) % 128 = b / 2 by omega]
  have e2 : (a / 2 &&& 5592405) = (a / 2 &&& 85) := by
    have := and_split (a := 0) (b := a / 2) (c := 21845) (d := 85) (by omega) (by decide)
    simpa using this
  rw [e2]
  have := (q_all a ha).2.1
  have := (q_all b hb).2.1
  omega
theorem pc2_s {a b : Nat} (ha : a < 256) (hb : b < 256) : pc2 (256 * a + b) = 256 * q2 a + q2 b := by
  unfold pc2 q2
  have e : (256 * a + b) / 2 ^ 2 = 256 * (a / 4) + (64 * (a % 4) + b / 4) := by omega
  have c : (858993459 : Nat) = 256 * 3355443 + 51 := by decide
  have e2 : ∀ x, x < 256 → (x &&& 3355443) = (x &&& 51) := by
    intro x hx
    have := and_split (a := 0) (b := x) (c := 13107) (d := 51) hx (by decide)
    simpa using this
  rw [e, c, and_split hb (by decide), and_split (by omega) (by decide), e2 a ha, e2 (a / 4) (by omega), m33 (64 * (a % 4) + b / 4) (by omega), show (64 * (a % 4) + b / 4) % 64 = b / 4 by omega, m33 (b / 4) (by omega)]
  rw [show b / 4 % 64 = b / 4 by omega]
  omega
theorem m0f : ∀ x, x < 256 → (x &&& 15) = x % 16 := by decide +kernel
theorem pc3_s {a b : Nat} (ha : a ≤ 68) (hb : b ≤ 68) (ha2 : a % 16 ≤ 4) : pc3 (256 * a + b) = 256 * q3 a + q3 b := by
  unfold pc3 q3
  have e : (256 * a + b) + (256 * a + b) / 2 ^ 4 = 256 * (a + a / 16) + (16 * (a % 16) + (b + b / 16)) := by omega
  have c : (252645135 : Nat) = 256 * 986895 + 15 := by decide
  have e2 : ∀ x, x < 256 → (x &&& 986895) = (x &&& 15) := by
    intro x hx
    have := and_split (a := 0) (b := x) (c := 3855) (d := 15) hx (by decide)
    simpa using this
  rw [e, c, and_split (by omega) (by decide), e2 _ (by omega), m0f (16 * (a % 16) + (b + b / 16)) (by omega), m0f (b + b / 16) (by omega)]
  omega
theorem cnt_add (p : Nat → Bool) (n : Nat) : ∀ m, cnt p (n + m) = cnt p n + cnt (fun t => p (n + t)) m
  | 0 => rfl
  | m + 1 => by
    rw [show n + (m + 1) = (n + m) + 1 by omega]
    simp only [cnt]
    rw [cnt_add p n m]
    omega
theorem pop_ok {a b : Nat} (ha : a < 256) (hb : b < 256) : pcA (256 * a + b) = cnt (fun t => (256 * a + b).testBit t) 16 := by
  obtain ⟨a1, -, a2, a3, a4, a5⟩ := q_all a ha
  obtain ⟨b1, -, b2, b3, b4, b5⟩ := q_all b hb
  unfold pcA
  rw [pc1_s ha hb, pc2_s a1 b1, pc3_s a2 b2 a3]
  have e : pc5 (pc4 (256 * q3 (q2 (q1 a)) + q3 (q2 (q1 b)))) = 256 * q3 (q2 (q1 a)) + (q3 (q2 (q1 a)) + q3 (q2 (q1 b))) := by
    unfold pc5 pc4
    omega
  rw [e]
  have e2 := Nat.and_two_pow_sub_one_eq_mod (256 * q3 (q2 (q1 a)) + (q3 (q2 (q1 a)) + q3 (q2 (q1 b)))) 6
  simp only [show (2 : Nat) ^ 6 - 1 = 63 from rfl, show (2 : Nat) ^ 6 = 64 from rfl] at e2
  rw [e2, show (256 * q3 (q2 (q1 a)) + (q3 (q2 (q1 a)) + q3 (q2 (q1 b)))) % 64 = q3 (q2 (q1 b)) + q3 (q2 (q1 a)) by omega, cnt_add _ 8 8, a5, b5]
  congr 1
  · apply cnt_congr
    intro k hk
    rw [tb_hi hb, if_pos hk]
  · apply cnt_congr
    intro k hk
    rw [tb_hi hb, if_neg (by omega), show 8 + k - 8 = k by omega]
theorem bitCount_ok {m : Nat} (h : m < 65536) : J6_bitCount_0f7a4 (nI m) = some (nI (cnt (fun t => m.testBit t) 16)) := by
  rw [bitCount_pc h]
  have := pop_ok (a := m / 256) (b := m % 256) (by omega) (by omega)
  rw [Nat.div_add_mod] at this
  rw [this]
theorem ones_ok {m : Nat} (h : m < 65536) : X9_ones (nI m) = some (nI (cnt (fun t => m.testBit t) 16)) := by
  unfold X9_ones
  obtain ⟨r, h1, hr⟩ := lp_fu (fun n (s : Int32) x => X9_ones_L4 (nI m) n s x) 0 16 (fun k s => s = nI (cnt (fun t => m.testBit t) k)) (fun r => r = nI (cnt (fun t => m.testBit t) 16)) 0 (by decide) (by decide) rfl
    (fun n s h => ⟨s, by rw [X9_ones_L4, if_pos (by decide)], h⟩)
    (fun n s k hk h2 => Or.inl ⟨_, rfl, by
      rw [X9_ones_L4, if_neg (by rw [nle_16 (by omega)]; omega), bt_test h hk, nar_1, h2, i_add]
      have e3 : (if m.testBit k = true then 1 else 0) = m / 2 ^ k % 2 := by
        simp only [Nat.testBit_eq_decide_div_mod_eq, decide_eq_true_eq]
        rcases Nat.mod_two_eq_zero_or_one (m / 2 ^ k) with e | e <;> rw [e] <;> rfl
      show _ = X9_ones_L4 (nI m) n (nI (cnt (fun t => m.testBit t) k + if m.testBit k = true then 1 else 0)) (nI (k + 1))
      rw [e3]⟩)
  show (X9_ones_L4 (nI m) fu 0 (nI 0)).bind _ = _
  rw [h1, hr]
  rfl
