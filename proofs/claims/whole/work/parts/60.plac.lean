/-! ===== PHASE B: merging, step (g): keys and places ===== -/
def kyM (u : Mem) (p s : Nat) : Int32 := if chF (u (46 + p)) s (trF (u 49) s 0) = true then 2 * trF (u (46 + p)) s 1 else if chF (u (46 + (3 - p))) s (trF (u 49) s 0) = true then 2 * trF (u (46 + (3 - p))) s 1 + 1 else 100
theorem trait1' {f : Nat → Int32} {k : Nat} (hk : k < 16) : X4_trait f (nI k) 1 = some (trF f k 1) := trait_ok (w := 1) hk (by decide)
theorem key_ok {u : Mem} {p s : Nat} (hp : p = 1 ∨ p = 2) (h : u 57 3 = nI p) (hs : s < 16) : X3_keyOf u (nI s) = some (kyM u p s) := by
  unfold X3_keyOf kyM
  rw [trait0' hs, ob_some, (pref_ok hp h).1, (pref_ok hp h).2, ob_some, ob_some, isChild_ok hs, ob_some, isChild_ok hs, ob_some, e4621, e4621, trait1' hs, trait1' hs, ob_some, ob_some]
  cases chF (u (46 + p)) s (trF (u 49) s 0) <;> cases chF (u (46 + (3 - p))) s (trF (u 49) s 0) <;> rfl
theorem rkey_ok {I : Nat → Bool} {b : Nat → Int32} {N : Nat} {u0 v0 u v : Mem} {p s : Nat} (hB : MB u v p) (h : Jh I N u0 v0 u v) (hs0 : 0 < s) (hs : s < 16) (hI : I s = true) : X9_keyOf v (nI s) = some (kyM u p s) := by
  have hh : hF (u 49) s = true := by rw [h.hF hs]; exact hI
  have em : trF (u 49) s 0 = v 1 (192 + s) := by
    rw [trF_here hh, show 16 * 0 + s = s by omega]; exact h.2.2.2.2.1 s hs hI
  obtain ⟨hR, hp, -, hq⟩ := hB
  have R1 := (hR p (by omega)).1
  have R2 := (hR (3 - p) (by omega)).1
  have t3 : (3 : Int32) - nI p = nI (3 - p) := i_sub (a := 3) (b := p) (by omega)
  unfold X9_keyOf kyM
  rw [par3 hs, ob_some, show rd 258 (v 1) 256 = some (v 1 256) from rd_ok (i := 256) (by decide) (by decide), ob_some, hq, t3, rIn (o := p) rfl rfl (by omega) hs, ob_some, rIn (o := 3 - p) rfl rfl (by omega) hs, ob_some, rPar (o := 3 - p) rfl rfl (by omega) hs, ob_some, rPla (o := 3 - p) rfl rfl (by omega) hs, ob_some, rPar (o := p) rfl rfl (by omega) hs, ob_some, rPla (o := p) rfl rfl (by omega) hs, ob_some, rr_h R1 hs, rr_h R2 hs, em]
  have c1 : ∀ f : Nat → Int32, ∀ x, chF f s x = (hF f s && decide (f s = x)) := fun f x => by unfold chF; simp [hs0]
  rw [c1, c1]
  cases h1 : hF (u (46 + p)) s
  · cases h2 : hF (u (46 + (3 - p))) s
    · rfl
    · obtain ⟨-, -, b1, b2, -⟩ := rr_yes R2 hs h2
      rw [if_pos bt_f, if_neg bt_t, trF_here h2, b1, show u (46 + (3 - p)) (16 * 1 + s) = _ from b2]
      by_cases e : v 1 (64 * (3 - p) + s) = v 1 (192 + s)
      · rw [if_pos e]; simp [e]
      · rw [if_neg e]; simp [e]
  · obtain ⟨-, -, a1, a2, -⟩ := rr_yes R1 hs h1
    rw [if_neg bt_t, trF_here h1, a1, show u (46 + p) (16 * 1 + s) = _ from a2]
    by_cases e0 : v 1 (64 * p + s) = v 1 (192 + s)
    · rw [if_pos e0]; simp [e0]
    · rw [if_neg e0]
      cases h2 : hF (u (46 + (3 - p))) s
      · rw [if_pos bt_f]; simp [e0]
      · obtain ⟨-, -, b1, b2, -⟩ := rr_yes R2 hs h2
        rw [if_neg bt_t, trF_here h2, b1, show u (46 + (3 - p)) (16 * 1 + s) = _ from b2]
        by_cases e : v 1 (64 * (3 - p) + s) = v 1 (192 + s)
        · rw [if_pos e]; simp [e, e0]
        · rw [if_neg e]; simp [e, e0]
def ahK (K : Nat → Int32) (q s : Nat) : Bool := decide (K q < K s) || (decide (K q = K s) && decide (q < s))
def ahM (f K : Nat → Int32) (s q : Nat) : Bool := chF f q (f s) && ahK K q s
def rkM (f K : Nat → Int32) (s : Nat) : Nat := cnt (ahM f K s) 16
theorem ah_ok {u : Mem} {K : Nat → Int32} {q s : Nat} (hK : ∀ j, 0 < j → j < 16 → u 63 j = K j) (hq0 : 0 < q) (hq : q < 16) (hs0 : 0 < s) (hs : s < 16) : X3_isAhead u (nI q) (nI s) = some (ahK K q s) := by
  unfold X3_isAhead ahK
  rw [isNum hq, isNum hs, ob_some, ob_some, if_neg bt_t, if_neg bt_t, rd_ok hq (by decide), rd_ok hs (by decide), hK q hq0 hq, hK s hs0 hs]
  simp only [ob_some]
  by_cases e1 : K q < K s
  · rw [if_pos e1]; simp [e1]
  · rw [if_neg e1]
    by_cases e2 : K q = K s
    · rw [if_pos e2]
      by_cases e3 : q < s
      · rw [if_neg (by rw [c_le (by omega) (by omega)]; omega)]; simp [e2, e3]
      · rw [if_pos (by rw [c_le (by omega) (by omega)]; omega)]
        simp [e3, e2, Int32.lt_irrefl]
    · rw [if_neg e2]; simp [e1, e2]
theorem countAhead_ok {u : Mem} {K : Nat → Int32} {s : Nat} (hK : ∀ j, 0 < j → j < 16 → u 63 j = K j) (hs0 : 0 < s) (hs : s < 16) (hh : hF (u 49) s = true) : X3_countAhead u (nI s) = some (nI (rkM (u 49) K s)) := by
  unfold X3_countAhead
  rw [trait0' hs, ob_some, trF_here hh, show 16 * 0 + s = s by omega]
  obtain ⟨r, h1, h2⟩ := lp_fu (fun n (y : Int32) z => X3_countAhead_L15 (nI s) u (u 49 s) n y z) 1 16 (fun k y => 0 < k ∧ y = nI (cnt (ahM (u 49) K s) k)) (fun r => r = nI (rkM (u 49) K s)) 0 (by decide) (by decide) ⟨by decide, by
      have : ahM (u 49) K s 0 = false := by unfold ahM chF; simp
      simp only [cnt, this]; rfl⟩
    (fun n y h => ⟨y, by rw [X3_countAhead_L15, if_pos (by decide)], h.2⟩)
    (fun n y k hk ⟨hk0, hy⟩ => by
      left
      refine ⟨_, ⟨by omega, rfl⟩, ?_⟩
      rw [X3_countAhead_L15, if_neg (by rw [nle_16 (by omega)]; omega), isChild_ok hk, ob_some, ah_ok hK hk0 hk hs0 hs, ob_some, hy, nar_1]
      have : (if b2i (chF (u 49) k (u 49 s)) = 0 then some (0 : Int32) else if b2i (ahK K k s) = 0 then some 0 else some 1) = if b2i (ahM (u 49) K s k) = 0 then some 0 else some 1 := by
        unfold ahM
        cases chF (u 49) k (u 49 s) <;> cases ahK K k s <;> rfl
      rw [this]
      exact cstep _ _ (fun z => X3_countAhead_L15 (nI s) u (u 49 s) n z (nI (k + 1))))
  rw [show X3_countAhead_L15 (nI s) u (u 49 s) fu 0 1 = some r from h1, h2]; rfl
/-! the ranks are places -/
theorem ahK_iff {K : Nat → Int32} {q s : Nat} : ahK K q s = true ↔ ((K q).toInt < (K s).toInt ∨ ((K q).toInt = (K s).toInt ∧ q < s)) := by
  unfold ahK
  simp only [Bool.or_eq_true, Bool.and_eq_true, decide_eq_true_eq, Int32.lt_iff_toInt_lt, ← Int32.toInt_inj]
theorem cnt_lt {p q : Nat → Bool} {s : Nat} : ∀ {n : Nat}, (∀ k, k < n → p k = true → q k = true) → s < n → p s = false → q s = true → cnt p n < cnt q n
  | 0, _, h, _, _ => by omega
  | n + 1, h, hs, h1, h2 => by
    simp only [cnt]
    by_cases e : s = n
    · subst e
      have := cnt_mono (p := p) (q := q) (n := s) (fun k hk => h k (by omega))
      rw [h1, h2]; simp; omega
    · have := cnt_lt (p := p) (q := q) (n := n) (fun k hk => h k (by omega)) (by omega) h1 h2
      by_cases e2 : p n = true
      · rw [if_pos e2, if_pos (h n (by omega) e2)]; omega
      · rw [if_neg e2]; omega
theorem rk_lt {f K : Nat → Int32} {p : Int32} {k : Nat} (hk : k < 16) (hc : chF f k p = true) : rkM f K k < cnt (fun s => chF f s p) 16 := by
  have e : f k = p := (ch_h hc).2.2
  unfold rkM
  refine cnt_lt (s := k) (fun j hj h => ?_) hk ?_ hc
  · unfold ahM at h
    rw [e] at h
    cases z : chF f j p
    · rw [z] at h; cases h
    · rfl
  · unfold ahM
    have : ahK K k k = false := by
      cases z : ahK K k k
      · rfl
      · rw [ahK_iff] at z; omega
    rw [this]; simp
theorem rk_mono {f K : Nat → Int32} {p : Int32} {k l : Nat} (hk : k < 16) (hc : chF f k p = true) (hd : chF f l p = true) (ha : ahK K k l = true) : rkM f K k < rkM f K l := by
  have e : f k = p := (ch_h hc).2.2
  have e2 : f l = p := (ch_h hd).2.2
  unfold rkM
  refine cnt_lt (s := k) (fun j hj h => ?_) hk ?_ ?_
  · unfold ahM at h ⊢
    rw [e] at h
    rw [e2]
    simp only [Bool.and_eq_true] at h ⊢
    refine ⟨h.1, ?_⟩
    have h2 := h.2
    rw [ahK_iff] at h2 ha ⊢
    omega
  · unfold ahM
    have : ahK K k k = false := by
      cases z : ahK K k k
      · rfl
      · rw [ahK_iff] at z; omega
    rw [this]; simp
  · unfold ahM
    rw [e2, hc, ha]; rfl
theorem rk_inj {f K : Nat → Int32} {p : Int32} {k l : Nat} (hk : k < 16) (hl : l < 16) (hc : chF f k p = true) (hd : chF f l p = true) (h : rkM f K k = rkM f K l) : k = l := by
  apply Classical.byContradiction
  intro ne
  have : ahK K k l = true ∨ ahK K l k = true := by
    rw [ahK_iff, ahK_iff]
    omega
  rcases this with z | z
  · have := rk_mono hk hc hd z; omega
  · have := rk_mono hl hd hc z; omega
