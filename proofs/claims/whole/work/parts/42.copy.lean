/-! ===== PHASE B: copying ===== -/
def brG (s d : Nat → Int32) (i j m : Nat) : Nat → Int32 := fun t => if j ≤ t ∧ t < j + m then s (i + (t - j)) else d t
theorem bring_ok {v : Mem} {a b i j m : Nat} {pi pj pm : Int32} (h1 : pi = nI i) (h2 : pj = nI j) (h3 : pm = nI m) (ha : i + m ≤ lenY a) (hb : j + m ≤ lenY b) (la : lenY a < 2000) (lb : lenY b < 2000) (hab : a ≠ b ∨ j ≤ i ∨ i + m ≤ j) : X9_bring v a pi b pj pm = some (upm v b (brG (v a) (v b) i j m)) := by
  subst h1; subst h2; subst h3
  unfold X9_bring
  obtain ⟨r, h, hr⟩ := lp_fu (fun n (s : Mem) z => X9_bring_L3 a (nI i) b (nI j) (nI m) n z s) 0 m (fun k s => s = upm v b (brG (v a) (v b) i j k)) (fun r => r = upm v b (brG (v a) (v b) i j m)) v (by omega) (by omega) (by
      have : brG (v a) (v b) i j 0 = v b := by
        funext t
        unfold brG
        rw [if_neg]
        omega
      rw [this, upm_id])
    (fun n s h => ⟨s, by rw [X9_bring_L3, if_pos (Int32.le_refl _)], h⟩)
    (fun n s k hk h => Or.inl ⟨_, rfl, by
      have hread : upm v b (brG (v a) (v b) i j k) a (i + k) = v a (i + k) := by
        by_cases e : a = b
        · subst e
          rw [upm_same]
          unfold brG
          rw [if_neg]
          omega
        · rw [upm_ne _ _ e]
      rw [X9_bring_L3, if_neg (by rw [c_le (by omega) (by omega)]; omega), h, nar_1, i_add, i_add, rd_ok (by omega) (by omega), ob_some, stI_ok (by omega) (by omega), ob_some, upm_same, upm_upm, hread]
      congr 2
      funext t
      by_cases e : t = j + k
      · subst e
        rw [upd_s]
        unfold brG
        rw [if_pos (by omega), show j + k - j = k by omega]
      · rw [upd_n _ _ e]
        unfold brG
        by_cases h5 : j ≤ t ∧ t < j + k
        · rw [if_pos h5, if_pos (by omega)]
        · rw [if_neg h5, if_neg (by omega)]⟩)
  show (X9_bring_L3 a (nI i) b (nI j) (nI m) fu (nI 0) v).bind _ = _
  rw [h, hr]
  rfl
/-! only the first eighty count -/
def E80 (f f' : Nat → Int32) : Prop := ∀ i, i < 80 → f' i = f i
theorem E80.hF {f f' : Nat → Int32} (h : E80 f f') {k : Nat} (hk : k < 16) : hF f' k = hF f k := by
  show decide (f' (64 + k) = 1) = decide (f (64 + k) = 1)
  rw [h _ (by omega)]
theorem E80.chF {f f' : Nat → Int32} (h : E80 f f') {k : Nat} {p : Int32} (hk : k < 16) : chF f' k p = chF f k p := by
  show (decide (0 < k) && (_ && decide (f' k = p))) = (decide (0 < k) && (_ && decide (f k = p)))
  rw [h k (by omega), h.hF hk]
theorem E80.val {f f' : Nat → Int32} (h : E80 f f') (hV : Val f) : Val f' := by
  refine ⟨⟨?_, ?_, ?_, ?_⟩, ?_, ?_, ?_, ?_⟩
  · rw [h _ (by decide)]; exact hV.1.1
  · rw [h _ (by decide)]; exact hV.1.2.1
  · intro k hk; rw [h _ (by omega)]; exact hV.1.2.2.1 k hk
  · intro k h0 hk h1
    rw [h _ (by omega)] at h1
    obtain ⟨p, p1, p2, p3⟩ := hV.1.2.2.2 k h0 hk h1
    exact ⟨p, p1, by rw [h _ (by omega)]; exact p2, by rw [h _ (by omega)]; exact p3⟩
  · intro k hk h1
    rw [h.hF hk] at h1
    obtain ⟨i, hi⟩ := hV.2.1 k hk h1
    exact ⟨i, by rw [up_same hV.1.clo (fun y hy _ => PF_same (h y (by omega))) i k hk h1]; exact hi⟩
  · rw [h _ (by decide)]; exact hV.2.2.1
  · intro t ht
    exact Pl_congr (fun y hy => h.chF hy) (fun y hy _ => h _ (by omega)) (hV.2.2.2.1 t ht)
  · intro k hk h1
    rw [h.hF hk] at h1
    rw [h _ (by omega), h _ (by omega)]
    exact hV.2.2.2.2 k hk h1
theorem E80.rr {f f' g : Nat → Int32} {b : Nat} (h : E80 f f') (hR : RR f g b) : RR f' g b := by
  intro k hk
  rw [h _ (by omega), h _ (by omega), h _ (by omega), h _ (by omega), h _ (by omega)]
  exact hR k hk
theorem cpy80 (f g : Nat → Int32) : E80 f (va_cpy f g 0 0 80) := by
  intro i hi
  unfold va_cpy
  rw [if_pos (by omega)]
  simp
/-- desk d becomes as desk e -/
def Cp (u u' : Mem) (d e : Nat) : Prop := (∀ o, o < 3 → E80 (u (25 + (3 * e + o))) (u' (25 + (3 * d + o)))) ∧ u' (50 + d) 3 = u (50 + e) 3 ∧ u' (50 + d) 4 = u (50 + e) 4 ∧ ∀ i, i ≠ 25 + 3 * d → i ≠ 25 + (3 * d + 1) → i ≠ 25 + (3 * d + 2) → i ≠ 50 + d → u' i = u i
theorem copy_ok (u : Mem) {d e : Nat} (hd : d < 8) (he : e < 8) (hne : d ≠ e) : ∃ u', X0_copyFrom u d e = some u' ∧ Cp u u' d e := by
  unfold X0_copyFrom X4_copyFrom cpO stF
  simp only [ob_some]
  refine ⟨_, rfl, fun o ho => ?_, ?_, ?_, fun i h1 h2 h3 h4 => ?_⟩
  · unfold upf
    rw [upm_ne _ _ (by omega), upm_ne _ _ (by omega)]
    rcases (show o = 0 ∨ o = 1 ∨ o = 2 by omega) with e1 | e1 | e1
    · subst e1
      rw [upm_ne _ _ (by omega), upm_ne _ _ (by omega), show 25 + (3 * d + 0) = 25 + 3 * d by omega, upm_same]
      exact cpy80 _ _
    · subst e1
      rw [upm_ne _ _ (by omega), upm_same, upm_ne _ _ (by omega)]
      exact cpy80 _ _
    · subst e1
      rw [upm_same, upm_ne _ _ (by omega), upm_ne _ _ (by omega)]
      exact cpy80 _ _
  · unfold upf
    rw [upm_same, upd_n _ _ (by decide), upm_same, upd_s, upm_ne _ _ (by omega), upm_ne _ _ (by omega), upm_ne _ _ (by omega)]
  · unfold upf
    rw [upm_same, upd_s, upm_ne _ _ (by omega), upm_ne _ _ (by omega), upm_ne _ _ (by omega), upm_ne _ _ (by omega)]
  · unfold upf
    rw [upm_ne _ _ h4, upm_ne _ _ h4, upm_ne _ _ h3, upm_ne _ _ h2, upm_ne _ _ h1]
theorem Cp.dr {u u' : Mem} {d e : Nat} {g : Nat → Int32} {off : Nat} (h : Cp u u' d e) (hD : DR u e g off) : DR u' d g off :=
  ⟨fun o ho => (h.1 o ho).rr (hD.1 o ho), by rw [h.2.1]; exact hD.2.1, by rw [h.2.2.1]; exact hD.2.2⟩
theorem Cp.dv {u u' : Mem} {d e : Nat} (h : Cp u u' d e) (hD : DV u e) : DV u' d := by
  refine ⟨fun o ho => (h.1 o ho).val (hD.1 o ho), by rw [h.2.1]; exact hD.2.1, ?_⟩
  obtain ⟨n, a, b, c, k⟩ := hD.2.2
  exact ⟨n, a, b, by rw [h.2.2.1]; exact c, fun o x ho h1 h2 => by rw [(h.1 o ho).hF h2]; exact k o x ho h1 h2⟩
theorem DR.keep {u : Mem} {d : Nat} {g g' : Nat → Int32} {off off' : Nat} (h : DR u d g off) (hg : ∀ i, i < 258 → g' (off' + i) = g (off + i)) : DR u d g' off' := by
  refine ⟨fun o ho k hk => ?_, ?_, ?_⟩
  · have := h.1 o ho k hk
    rw [show off' + 64 * o + k = off' + (64 * o + k) by omega, show off' + 64 * o + 16 + k = off' + (64 * o + 16 + k) by omega, show off' + 64 * o + 32 + k = off' + (64 * o + 32 + k) by omega, show off' + 64 * o + 48 + k = off' + (64 * o + 48 + k) by omega, hg _ (by omega), hg _ (by omega), hg _ (by omega), hg _ (by omega)]
    rw [show off + 64 * o + k = off + (64 * o + k) by omega, show off + 64 * o + 16 + k = off + (64 * o + 16 + k) by omega, show off + 64 * o + 32 + k = off + (64 * o + 32 + k) by omega, show off + 64 * o + 48 + k = off + (64 * o + 48 + k) by omega] at this
    exact this
  · rw [hg 256 (by decide)]; exact h.2.1
  · rw [hg 257 (by decide)]; exact h.2.2
/-- the desk's cells are as they were -/
theorem DR.same {u u' : Mem} {d : Nat} {g : Nat → Int32} {off : Nat} (h : DR u d g off) (h0 : ∀ o, o < 3 → u' (25 + (3 * d + o)) = u (25 + (3 * d + o))) (h1 : u' (50 + d) = u (50 + d)) : DR u' d g off :=
  ⟨fun o ho => by rw [h0 o ho]; exact h.1 o ho, by rw [h1]; exact h.2.1, by rw [h1]; exact h.2.2⟩
theorem DV.same {u u' : Mem} {d : Nat} (h : DV u d) (h0 : ∀ o, o < 3 → u' (25 + (3 * d + o)) = u (25 + (3 * d + o))) (h1 : u' (50 + d) = u (50 + d)) : DV u' d := by
  refine ⟨fun o ho => by rw [h0 o ho]; exact h.1 o ho, by rw [h1]; exact h.2.1, ?_⟩
  obtain ⟨n, a, b, c, k⟩ := h.2.2
  exact ⟨n, a, b, by rw [h1]; exact c, fun o x ho h1 h2 => by rw [h0 o ho]; exact k o x ho h1 h2⟩
/-- FORK -/
theorem fork_rows (g : Nat → Int32) : ∀ i, i < 64 → brG (brG g g 0 64 64) (brG g g 0 64 64) 0 128 64 i = g i ∧ brG (brG g g 0 64 64) (brG g g 0 64 64) 0 128 64 (64 + i) = g i ∧ brG (brG g g 0 64 64) (brG g g 0 64 64) 0 128 64 (128 + i) = g i := by
  intro i hi
  unfold brG
  refine ⟨?_, ?_, ?_⟩
  · rw [if_neg (by omega), if_neg (by omega)]
  · rw [if_neg (by omega), if_pos (by omega), show 0 + (64 + i - 64) = i by omega]
  · rw [if_pos (by omega), show 0 + (128 + i - 128) = i by omega, if_neg (by omega)]
theorem fork_hi (g : Nat → Int32) {i : Nat} (hi : 192 ≤ i) : brG (brG g g 0 64 64) (brG g g 0 64 64) 0 128 64 i = g i := by
  unfold brG
  rw [if_neg (by omega), if_neg (by omega)]
theorem rr_shift {f g g' : Nat → Int32} {b b' : Nat} (h : RR f g b) (hg : ∀ i, i < 64 → g' (b' + i) = g (b + i)) : RR f g' b' := by
  intro k hk
  have := h k hk
  rw [show b' + 16 + k = b' + (16 + k) by omega, show b' + 32 + k = b' + (32 + k) by omega, show b' + 48 + k = b' + (48 + k) by omega, hg k (by omega), hg _ (by omega), hg _ (by omega), hg _ (by omega)]
  rw [show b + 16 + k = b + (16 + k) by omega, show b + 32 + k = b + (32 + k) by omega, show b + 48 + k = b + (48 + k) by omega] at this
  exact this
/-- both sides become as the base: f, which the reference has at 0 -/
theorem fork_ok {u v : Mem} {f : Nat → Int32} (hf : E80 f (u 25)) (hV : Val f) (hR : RR f (v 1) 0) (h3 : u 50 3 = v 1 256) (h4 : u 50 4 = v 1 257) (h5 : u 50 3 = 1 ∨ u 50 3 = 2) (h6 : ∃ n, 1 ≤ n ∧ n ≤ 16 ∧ u 50 4 = nI n ∧ ∀ k, n ≤ k → k < 16 → hF f k = false) :
    ∃ r u' v', X0_fork u 0 = some (r, u') ∧ X9_fork v = some (r, v') ∧ (∃ n, n < 1000 ∧ r = nI n) ∧ DS u' v' ∧ FX u u' ∧ FY v v' := by
  unfold X0_fork X9_fork X4_copyFrom cpO
  simp only [ob_some]
  have b1 : ∀ w : Mem, X9_bring w 1 0 1 64 64 = some (upm w 1 (brG (w 1) (w 1) 0 64 64)) := fun w => bring_ok (i := 0) (j := 64) (m := 64) rfl rfl rfl (by decide) (by decide) (by decide) (by decide) (by omega)
  have b2 : ∀ w : Mem, X9_bring w 1 0 1 128 64 = some (upm w 1 (brG (w 1) (w 1) 0 128 64)) := fun w => bring_ok (i := 0) (j := 128) (m := 64) rfl rfl rfl (by decide) (by decide) (by decide) (by decide) (by omega)
  rw [b1, ob_some, b2, ob_some]
  simp only [upm_same, upm_upm]
  have hV0 := hf.val hV
  have hR0 := hf.rr hR
  have e25 : upm (upm u (25 + (3 * 0 + 1)) (va_cpy (u (25 + 3 * 0)) (u (25 + (3 * 0 + 1))) 0 0 80)) (25 + (3 * 0 + 2)) (va_cpy (upm u (25 + (3 * 0 + 1)) (va_cpy (u (25 + 3 * 0)) (u (25 + (3 * 0 + 1))) 0 0 80) (25 + 3 * 0)) (upm u (25 + (3 * 0 + 1)) (va_cpy (u (25 + 3 * 0)) (u (25 + (3 * 0 + 1))) 0 0 80) (25 + (3 * 0 + 2))) 0 0 80) (25 + 3 * 0) = u 25 := by
    rw [upm_ne _ _ (by decide), upm_ne _ _ (by decide)]
  have hrow : ∀ o, o < 3 → E80 (u 25) (upm (upm u (25 + (3 * 0 + 1)) (va_cpy (u (25 + 3 * 0)) (u (25 + (3 * 0 + 1))) 0 0 80)) (25 + (3 * 0 + 2)) (va_cpy (upm u (25 + (3 * 0 + 1)) (va_cpy (u (25 + 3 * 0)) (u (25 + (3 * 0 + 1))) 0 0 80) (25 + 3 * 0)) (upm u (25 + (3 * 0 + 1)) (va_cpy (u (25 + 3 * 0)) (u (25 + (3 * 0 + 1))) 0 0 80) (25 + (3 * 0 + 2))) 0 0 80) (25 + o)) := by
    intro o ho
    rcases (show o = 0 ∨ o = 1 ∨ o = 2 by omega) with e | e | e
    · subst e
      rw [upm_ne _ _ (by decide), upm_ne _ _ (by decide)]
      exact fun _ _ => rfl
    · subst e
      rw [upm_ne _ _ (by decide), show 25 + (3 * 0 + 1) = 25 + 1 from rfl, upm_same]
      exact cpy80 _ _
    · subst e
      rw [show 25 + (3 * 0 + 2) = 25 + 2 from rfl, upm_same, upm_ne _ _ (by decide)]
      exact cpy80 _ _
  rw [count_ok, ob_some, e25]
  have hRm : RR (u 25) (upm v 1 (brG (brG (v 1) (v 1) 0 64 64) (brG (v 1) (v 1) 0 64 64) 0 128 64) 1) (64 * 0) := by
    rw [upm_same]
    exact rr_shift hR0 (fun i hi => by rw [show 64 * 0 + i = i by omega, (fork_rows (v 1) i hi).1])
  rw [rMany (x := 0) (o := 0) rfl (by decide) hRm, ob_some]
  have hc := cnt_le (hF (u 25)) 16
  refine ⟨_, _, _, rfl, rfl, ⟨_, by omega, rfl⟩, ?_, ?_, FY.upm⟩
  · refine DS.mk (fun o ho => ?_) (fun o ho => ?_) ?_ ?_ ?_ ?_
    · rw [upm_same]
      refine (hrow o ho).rr ?_
      refine rr_shift hR0 (fun i hi => ?_)
      rw [Nat.zero_add]
      rcases (show o = 0 ∨ o = 1 ∨ o = 2 by omega) with e | e | e
      · subst e; rw [show 64 * 0 + i = i by omega]; exact (fork_rows (v 1) i hi).1
      · subst e; exact (fork_rows (v 1) i hi).2.1
      · subst e; exact (fork_rows (v 1) i hi).2.2
    · exact (hrow o ho).val hV0
    · rw [upm_ne _ _ (by decide), upm_ne _ _ (by decide), upm_same, fork_hi _ (by decide)]; exact h3
    · rw [upm_ne _ _ (by decide), upm_ne _ _ (by decide), upm_same, fork_hi _ (by decide)]; exact h4
    · rw [upm_ne _ _ (by decide), upm_ne _ _ (by decide)]; exact h5
    · obtain ⟨n, a, b, c, d⟩ := h6
      refine ⟨n, a, b, by rw [upm_ne _ _ (by decide), upm_ne _ _ (by decide)]; exact c, fun o k ho h7 h8 => ?_⟩
      rw [(hrow o ho).hF h8, hf.hF h8]
      exact d k h7 h8
  · intro i h1 h2 h3 h4
    rw [upm_ne _ _ (by omega), upm_ne _ _ (by omega)]
theorem act_fork {u v : Mem} (h : DS u v) : Act u v (X0_fork u 0) (X9_fork v) := by
  obtain ⟨n, a, b, c, d, e⟩ := h.fr
  obtain ⟨r, u', v', h1, h2, h3⟩ := fork_ok (u := u) (v := v) (f := u 25) (fun _ _ => rfl) (h.val (o := 0) (by decide)) (h.rr (o := 0) (by decide)) h.1.2.1 h.1.2.2 h.2.2.1 ⟨n, a, b, c, fun k h7 h8 => e 0 k (by decide) h7 h8⟩
  exact ⟨r, u', v', h1, h2, Or.inr h3⟩
