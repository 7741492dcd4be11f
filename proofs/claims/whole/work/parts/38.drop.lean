/-! ===== PHASE B: dropping ===== -/
def drF (g : Nat → Int32) (m n : Nat) : Nat → Int32 := fun i => if 64 < i ∧ i < 64 + n ∧ m.testBit (i - 64) = true then 0 else g i
theorem bel_root {f : Nat → Int32} {s n : Nat} (h0 : 0 < s) : belN (PF f) n 0 s = false := by
  rw [← Bool.not_eq_true, belN_iff]
  rintro ⟨i, -, hi⟩
  have e0 : PF f 0 = 0 := rfl
  rw [up_fix e0] at hi
  omega
theorem drop_L4 {f : Nat → Int32} {s : Nat} (hC : CloF f) (h0 : 0 < s) (hs : s < 16) : X4_drop_L4 (nI s) f fu 0 1 = some (nI (bsN f 15 s)) := by
  have hb : ∀ k, mk (fun t => hF f t && belN (PF f) 16 t s) k = mk (fun t => hF f t && belN (PF f) (15 + 1) t s) k := fun k => rfl
  obtain ⟨r, h, hr⟩ := lp_fu (fun n (x : Int32) z => X4_drop_L4 (nI s) f n x z) 1 16 (fun k x => x = nI (mk (fun t => hF f t && belN (PF f) 16 t s) k)) (fun r => r = nI (bsN f 15 s)) 0 (by decide) (by decide) (by
      simp only [mk]
      rw [bel_root h0]
      simp
      rfl)
    (fun n x h => ⟨x, by rw [X4_drop_L4, if_pos (by decide)], h⟩)
    (fun n x k hk h => Or.inl ⟨_, rfl, by
      rw [X4_drop_L4, if_neg (by rw [nle_16 (by omega)]; omega), holds_ok hk, ob_some, nar_1, h]
      have hm1 : mk (fun t => hF f t && belN (PF f) 16 t s) (k + 1) = mk (fun t => hF f t && belN (PF f) 16 t s) k ||| (if (hF f k && belN (PF f) 16 k s) = true then 2 ^ k else 0) := rfl
      rw [hm1]
      generalize mk (fun t => hF f t && belN (PF f) 16 t s) k = z
      cases hh : hF f k
      · rw [if_pos (by rw [b2i_0]), ob_some, show (0 : Int32) = nI 0 from rfl, nx_or]
        simp
      · rw [if_neg (by rw [b2i_0]; decide), isBelow_ok hC hk hh hs, ob_some]
        cases hq : belN (PF f) 16 k s
        · rw [if_pos (by rw [b2i_0]), ob_some, show (0 : Int32) = nI 0 from rfl, nx_or]
          simp
        · rw [if_neg (by rw [b2i_0]; decide), ob_some, bt_one k hk, nx_or]
          simp⟩)
  show X4_drop_L4 (nI s) f fu 0 (nI 1) = _
  rw [h, hr]
theorem drop_L50 {g : Nat → Int32} {m : Nat} (hm : m < 65536) : X4_drop_L50 (nI m) fu 1 g = some (drF g m 16) := by
  obtain ⟨r, h, hr⟩ := lp_fu (fun n (x : Nat → Int32) z => X4_drop_L50 (nI m) n z x) 1 16 (fun k x => x = drF g m k ∧ 0 < k) (fun r => r = drF g m 16) g (by decide) (by decide) ⟨by
      funext i
      unfold drF
      rw [if_neg]
      omega, by decide⟩
    (fun n x h => ⟨x, by rw [X4_drop_L50, if_pos (by decide)], h.1⟩)
    (fun n x k hk h => Or.inl ⟨_, ⟨rfl, by omega⟩, by
      rw [X4_drop_L50, if_neg (by rw [nle_16 (by omega)]; omega), h.1, nar_1]
      have hne : ∀ i, i ≠ 64 + k → drF g m (k + 1) i = drF g m k i := by
        intro i hi
        unfold drF
        by_cases h1 : 64 < i ∧ i < 64 + k ∧ m.testBit (i - 64) = true
        · rw [if_pos h1, if_pos ⟨h1.1, by omega, h1.2.2⟩]
        · rw [if_neg h1, if_neg]
          intro h2
          exact h1 ⟨h2.1, by omega, h2.2.2⟩
      by_cases hb : m.testBit k = true
      · rw [if_pos (by rw [bt_is hm hk]; exact hb), show (X4_put (drF g m k) (nI k) 4 0) = _ from put_ok (w := 4) hk (by decide), ob_some]
        congr 1
        funext i
        by_cases e : i = 64 + k
        · subst e
          rw [show 16 * 4 + k = 64 + k by omega, upd_s]
          unfold drF
          rw [if_pos ⟨by omega, by omega, by rw [show 64 + k - 64 = k by omega]; exact hb⟩]
        · rw [upd_n _ _ (by omega), hne i e]
      · rw [if_neg (by rw [bt_is hm hk]; exact hb)]
        congr 1
        funext i
        by_cases e : i = 64 + k
        · subst e
          unfold drF
          rw [if_neg (by omega), if_neg]
          rw [show 64 + k - 64 = k by omega]
          exact fun z => hb z.2.2
        · rw [hne i e]⟩)
  show X4_drop_L50 (nI m) fu (nI 1) g = _
  rw [h, hr]
def dpF (f : Nat → Int32) (s : Nat) : Nat → Int32 := drF (deF f s) (bsN f 15 s) 16
theorem drop_ok {f : Nat → Int32} {s : Nat} (hC : CloF f) (h0 : 0 < s) (hs : s < 16) : X4_drop f (nI s) = some (nI (cnt (fun t => (bsN f 15 s).testBit t) 16), dpF f s) := by
  unfold X4_drop
  rw [drop_L4 hC h0 hs, ob_some, detach_ok hs, ob_some, drop_L50 (bsN_lt f 15 s), ob_some, bitCount_ok (bsN_lt f 15 s), ob_some]
  rfl
section DP
variable {f : Nat → Int32} {s t : Nat}
theorem dp_h (h0 : 0 < s) (hs : s < 16) (ht : t < 16) : hF (dpF f s) t = (hF f t && !belN (PF f) 16 t s) := by
  unfold dpF
  by_cases e0 : t = 0
  · subst e0
    have : hF (drF (deF f s) (bsN f 15 s) 16) 0 = hF (deF f s) 0 := by
      unfold hF drF
      rw [if_neg (by omega)]
    rw [this, de_h hs (by decide), bel_root h0]
    simp
  · cases hb : (bsN f 15 s).testBit t
    · have : hF (drF (deF f s) (bsN f 15 s) 16) t = hF (deF f s) t := by
        unfold hF drF
        rw [if_neg]
        rw [show 64 + t - 64 = t by omega, hb]
        simp
      rw [this, de_h hs ht]
      rw [bsN_bit f 15 s ht] at hb
      cases hh : hF f t
      · rfl
      · rw [hh] at hb
        simp at hb
        rw [hb]
        rfl
    · have : hF (drF (deF f s) (bsN f 15 s) 16) t = false := by
        unfold hF drF
        rw [if_pos ⟨by omega, by omega, by rw [show 64 + t - 64 = t by omega]; exact hb⟩]
        decide
      rw [this]
      rw [bsN_bit f 15 s ht] at hb
      simp at hb
      rw [hb.2]
      simp
theorem dp_lo (hs : s < 16) {i : Nat} (hi : i < 64) : dpF f s i = deF f s i := by
  unfold dpF drF
  rw [if_neg (by omega)]
end DP
theorem bel_up {f : Nat → Int32} (hV : Val f) {t s : Nat} (ht : t < 16) (hh : hF f t = true) (hb : belN (PF f) 16 t s = false) (i : Nat) : belN (PF f) 16 (up (PF f) i t) s = false := by
  obtain ⟨q1, q2⟩ := hV.1.clo.up i t ht hh
  rw [← Bool.not_eq_true] at hb ⊢
  rw [bel_any hV.1.clo hV.2.1 ht hh] at hb
  rw [bel_any hV.1.clo hV.2.1 q1 q2]
  rintro ⟨j, hj⟩
  exact hb ⟨i + j, by rw [up_add]; exact hj⟩
theorem dp_self {f : Nat → Int32} {s : Nat} : belN (PF f) 16 s s = true := by
  show (decide (s = s) || belN (PF f) 15 (PF f s) s) = true
  simp
theorem dp_eh {f : Nat → Int32} {s : Nat} (h0 : 0 < s) (hs : s < 16) : ∀ x, x < 16 → hF (dpF f s) x = true → x ≠ s ∧ hF f x = true ∧ belN (PF f) 16 x s = false := by
  intro x hx h
  rw [dp_h h0 hs hx] at h
  simp at h
  refine ⟨fun e => ?_, h.1, h.2⟩
  have h2 := h.2
  rw [e, dp_self] at h2
  cases h2
theorem dp_ep {f : Nat → Int32} {s : Nat} (hs : s < 16) : ∀ x, x < 16 → x ≠ s → dpF f s x = f x := by
  intro x hx e
  rw [dp_lo hs (by omega), de_p hs hx, if_neg e]
theorem Val_drop0 {f : Nat → Int32} {s : Nat} (hV : Val f) (h0 : 0 < s) (hs : s < 16) (hh : hF f s = true) : dpF f s 64 = 1 := by
  have hself : belN (PF f) 16 s s = true := dp_self
  obtain ⟨hc, -⟩ := hV.pl h0 hs hh
  obtain ⟨-, hP0, -⟩ := hV.1.par h0 hs hh
  have eh := dp_eh (f := f) h0 hs
  have ep := dp_ep (f := f) hs
  have := dp_h (f := f) h0 hs (t := 0) (by decide)
  rw [hV.1.clo.1, bel_root h0] at this
  simp at this
  rw [hh_of] at this
  exact this
theorem Val_drop1 {f : Nat → Int32} {s : Nat} (hV : Val f) (h0 : 0 < s) (hs : s < 16) (hh : hF f s = true) : dpF f s 0 = -1 := by
  have hself : belN (PF f) 16 s s = true := dp_self
  obtain ⟨hc, -⟩ := hV.pl h0 hs hh
  obtain ⟨-, hP0, -⟩ := hV.1.par h0 hs hh
  have eh := dp_eh (f := f) h0 hs
  have ep := dp_ep (f := f) hs
  rw [ep 0 (by decide) (by omega)]
  exact hV.1.2.1
theorem Val_drop2 {f : Nat → Int32} {s : Nat} (hV : Val f) (h0 : 0 < s) (hs : s < 16) (hh : hF f s = true) : ∀ k, k < 16 → dpF f s (64 + k) = 1 ∨ dpF f s (64 + k) = 0 := by
  have hself : belN (PF f) 16 s s = true := dp_self
  obtain ⟨hc, -⟩ := hV.pl h0 hs hh
  obtain ⟨-, hP0, -⟩ := hV.1.par h0 hs hh
  have eh := dp_eh (f := f) h0 hs
  have ep := dp_ep (f := f) hs
  intro x hx
  unfold dpF drF
  split
  · exact Or.inr rfl
  · rw [de_n hs (by omega)]
    exact hV.1.2.2.1 x hx
theorem Val_drop3 {f : Nat → Int32} {s : Nat} (hV : Val f) (h0 : 0 < s) (hs : s < 16) (hh : hF f s = true) : ∀ k, 0 < k → k < 16 → dpF f s (64 + k) = 1 → ∃ p, p < 16 ∧ dpF f s k = nI p ∧ dpF f s (64 + p) = 1 := by
  have hself : belN (PF f) 16 s s = true := dp_self
  obtain ⟨hc, -⟩ := hV.pl h0 hs hh
  obtain ⟨-, hP0, -⟩ := hV.1.par h0 hs hh
  have eh := dp_eh (f := f) h0 hs
  have ep := dp_ep (f := f) hs
  intro x hx0 hx h1
  rw [← hh_of] at h1
  obtain ⟨e, h2, h3⟩ := eh x hx h1
  obtain ⟨q1, q2, q3⟩ := hV.1.par hx0 hx h2
  refine ⟨PF f x, q2, by rw [ep x hx e]; exact q1, ?_⟩
  rw [← hh_of, dp_h h0 hs q2, q3, show PF f x = up (PF f) 1 x from rfl, bel_up hV hx h2 h3 1]
  rfl
theorem Acy_sub {H H' : Nat → Bool} {P P' : Nat → Nat} (h : ∀ k, k < 16 → H' k = true → H k = true ∧ P' k = P k) (hC' : Clo H' P') (hA : Acy H P) : Acy H' P' := by
  intro t ht hh
  obtain ⟨i, hi⟩ := hA t ht (h t ht hh).1
  have e := up_same (P' := P) hC' (fun k hk hk2 => ((h k hk hk2).2).symm) i t ht hh
  exact ⟨i, by rw [← e]; exact hi⟩
theorem Val_drop4 {f : Nat → Int32} {s : Nat} (hV : Val f) (h0 : 0 < s) (hs : s < 16) (hh : hF f s = true) : Acy (hF (dpF f s)) (PF (dpF f s)) := by
  have hC : CloF (dpF f s) := ⟨Val_drop0 hV h0 hs hh, Val_drop1 hV h0 hs hh, Val_drop2 hV h0 hs hh, Val_drop3 hV h0 hs hh⟩
  refine Acy_sub (fun k hk hk2 => ?_) hC.clo hV.2.1
  obtain ⟨e, h2, -⟩ := dp_eh h0 hs k hk hk2
  exact ⟨h2, PF_same (dp_ep hs k hk e)⟩
theorem Val_drop5 {f : Nat → Int32} {s : Nat} (hV : Val f) (h0 : 0 < s) (hs : s < 16) (hh : hF f s = true) : dpF f s 16 = 0 := by
  have hself : belN (PF f) 16 s s = true := dp_self
  obtain ⟨hc, -⟩ := hV.pl h0 hs hh
  obtain ⟨-, hP0, -⟩ := hV.1.par h0 hs hh
  have eh := dp_eh (f := f) h0 hs
  have ep := dp_ep (f := f) hs
  rw [dp_lo hs (by omega)]
  unfold deF
  rw [show (16 : Nat) = 16 + 0 from rfl, sh_q (by decide), if_neg (fun z => absurd (ch_h z.1).1 (by decide)), upd_n _ _ (by omega)]
  exact hV.2.2.1
theorem Val_drop6 {f : Nat → Int32} {s : Nat} (hV : Val f) (h0 : 0 < s) (hs : s < 16) (hh : hF f s = true) : ∀ t, t < 16 → Pl (dpF f s) (nI t) := by
  have hself : belN (PF f) 16 s s = true := dp_self
  obtain ⟨hc, -⟩ := hV.pl h0 hs hh
  obtain ⟨-, hP0, -⟩ := hV.1.par h0 hs hh
  have eh := dp_eh (f := f) h0 hs
  have ep := dp_ep (f := f) hs
  intro x hx
  have hpl1 : Pl (deF f s) (nI x) := by
    by_cases e : PF f s = x
    · subst e
      exact (de_Pl hs hc (i_m1 (by omega)) (hV.2.2.2.1 _ hx)).1
    · exact (de_Pl_o hs hc (fun z => e (i_inj (by omega) (by omega) z)) (i_m1 (by omega)) (hV.2.2.2.1 x hx)).1
  have hsub : ∀ k, k < 16 → chF (dpF f s) k (nI x) = true → k ≠ s ∧ hF f k = true ∧ belN (PF f) 16 k s = false ∧ PF f k = x := by
    intro k hk hck
    obtain ⟨a, b, d⟩ := ch_h hck
    obtain ⟨e, h2, h3⟩ := eh k hk b
    refine ⟨e, h2, h3, ?_⟩
    rw [ep k hk e] at d
    exact PF_of (by omega) hx d
  by_cases hz : ∃ k, k < 16 ∧ chF (dpF f s) k (nI x) = true
  · obtain ⟨k, hk, hck⟩ := hz
    obtain ⟨e, h2, h3, h4⟩ := hsub k hk hck
    have hbx : belN (PF f) 16 x s = false := by
      have := bel_up hV hk h2 h3 1
      rw [show up (PF f) 1 k = PF f k from rfl, h4] at this
      exact this
    have hxs : x ≠ s := by
      intro z
      rw [z, hself] at hbx
      cases hbx
    refine Pl_congr (fun y hy => ?_) (fun y hy hcy => dp_lo hs (by omega)) hpl1
    rw [de_c hs hy]
    by_cases ey : y = s
    · rw [if_pos ey]
      have : chF (dpF f s) y (nI x) = false := by
        rw [← Bool.not_eq_true]
        intro z
        exact (hsub y hy z).1 ey
      rw [this]
      simp [Ne.symm (i_m1 (a := x) (by omega))]
    · rw [if_neg ey]
      cases hcf : chF f y (nI x)
      · rw [← Bool.not_eq_true]
        intro z
        obtain ⟨a, b, d⟩ := ch_h z
        obtain ⟨-, b2, -⟩ := eh y hy b
        rw [ep y hy ey] at d
        have : chF f y (nI x) = true := by
          unfold chF
          rw [b2, d]
          simp [a]
        rw [this] at hcf
        cases hcf
      · obtain ⟨a, b, d⟩ := ch_h hcf
        have hPy : PF f y = x := PF_of (by omega) hx d
        have hby : belN (PF f) 16 y s = false := by
          rw [← Bool.not_eq_true] at hbx ⊢
          intro z
          apply hbx
          have b1 := b
          rw [bel_any hV.1.clo hV.2.1 hy b] at z
          obtain ⟨q1, q2, q3⟩ := hV.1.par a hy b
          rw [hPy] at q3
          rw [bel_any hV.1.clo hV.2.1 hx q3]
          obtain ⟨i, hi⟩ := z
          cases i with
          | zero => exact absurd hi ey
          | succ i =>
            refine ⟨i, ?_⟩
            have : up (PF f) i (PF f y) = s := hi
            rw [hPy] at this
            exact this
        unfold chF
        rw [dp_h h0 hs hy, b, hby, ep y hy ey, d]
        simp [a]
  · refine ⟨fun k hk hck => absurd ⟨k, hk, hck⟩ hz, fun k l hk hl h1 => absurd ⟨k, hk, h1⟩ hz⟩
theorem Val_drop7 {f : Nat → Int32} {s : Nat} (hV : Val f) (h0 : 0 < s) (hs : s < 16) (hh : hF f s = true) : ∀ k, k < 16 → hF (dpF f s) k = true → (∃ a, a < 100 ∧ dpF f s (32 + k) = nI a) ∧ ∃ a, a < 100 ∧ dpF f s (48 + k) = nI a := by
  have hself : belN (PF f) 16 s s = true := dp_self
  obtain ⟨hc, -⟩ := hV.pl h0 hs hh
  obtain ⟨-, hP0, -⟩ := hV.1.par h0 hs hh
  have eh := dp_eh (f := f) h0 hs
  have ep := dp_ep (f := f) hs
  intro x hx h1
  obtain ⟨e, h2, h3⟩ := eh x hx h1
  rw [dp_lo hs (by omega), dp_lo hs (by omega), de_n hs (by omega), de_n hs (by omega)]
  exact hV.2.2.2.2 x hx h2
theorem Val_drop {f : Nat → Int32} {s : Nat} (hV : Val f) (h0 : 0 < s) (hs : s < 16) (hh : hF f s = true) : Val (dpF f s) := ⟨⟨Val_drop0 hV h0 hs hh, Val_drop1 hV h0 hs hh, Val_drop2 hV h0 hs hh, Val_drop3 hV h0 hs hh⟩, Val_drop4 hV h0 hs hh, Val_drop5 hV h0 hs hh, Val_drop6 hV h0 hs hh, Val_drop7 hV h0 hs hh⟩
theorem countBelow_ok {f : Nat → Int32} {s : Nat} (hC : CloF f) (hs : s < 16) : X4_countBelow f (nI s) = some (nI (cnt (fun t => (bsN f 15 s).testBit t) 16)) := by
  unfold X4_countBelow
  have hp : cnt (fun t => (bsN f 15 s).testBit t) 16 = cnt (fun t => hF f t && belN (PF f) 16 t s) 16 := cnt_congr (fun k hk => bsN_bit f 15 s hk)
  obtain ⟨r, h, hr⟩ := lp_fu (fun n (x : Int32) z => X4_countBelow_L4 (nI s) f n x z) 0 16 (fun k x => x = nI (cnt (fun t => hF f t && belN (PF f) 16 t s) k)) (fun r => r = nI (cnt (fun t => hF f t && belN (PF f) 16 t s) 16)) 0 (by decide) (by decide) rfl
    (fun n x h => ⟨x, by rw [X4_countBelow_L4, if_pos (by decide)], h⟩)
    (fun n x k hk h => Or.inl ⟨_, rfl, by
      rw [X4_countBelow_L4, if_neg (by rw [nle_16 (by omega)]; omega), holds_ok hk, ob_some, nar_1, h]
      have hm1 : cnt (fun t => hF f t && belN (PF f) 16 t s) (k + 1) = cnt (fun t => hF f t && belN (PF f) 16 t s) k + (if (hF f k && belN (PF f) 16 k s) = true then 1 else 0) := rfl
      rw [hm1]
      generalize cnt (fun t => hF f t && belN (PF f) 16 t s) k = z
      cases hh : hF f k
      · rw [if_pos (by rw [b2i_0]), ob_some, i_add0]
        rfl
      · rw [if_neg (by rw [b2i_0]; decide), isBelow_ok hC hk hh hs, ob_some]
        exact cstep (belN (PF f) 16 k s) z (fun y => X4_countBelow_L4 (nI s) f n y (nI (k + 1)))⟩)
  show (X4_countBelow_L4 (nI s) f fu 0 (nI 0)).bind _ = _
  rw [h, hr, hp]
  rfl
