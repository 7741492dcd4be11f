/-! ===== PHASE B: hanging, unhanging, dropping in the class's row ===== -/
theorem cnt_one {p q : Nat → Bool} {s : Nat} : ∀ {n : Nat}, s < n → (∀ k, k < n → k ≠ s → q k = p k) → p s = false → q s = true → cnt q n = cnt p n + 1
  | 0, h, _, _, _ => by omega
  | n + 1, h, hk, h1, h2 => by
    simp only [cnt]
    by_cases e : s = n
    · subst e
      rw [cnt_congr (p := q) (q := p) (fun k hk' => hk k (by omega) (by omega)), h1, h2]
      rfl
    · rw [cnt_one (n := n) (by omega) (fun k hk' => hk k (by omega)) h1 h2, hk n (by omega) (Ne.symm e)]
      omega
theorem cnt_pos {p : Nat → Bool} {s : Nat} : ∀ {n : Nat}, s < n → p s = true → 0 < cnt p n
  | 0, h, _ => by omega
  | n + 1, h, h1 => by
    simp only [cnt]
    by_cases e : s = n
    · subst e; rw [h1]; simp
    · have := cnt_pos (n := n) (p := p) (by omega) h1
      omega
def Pl (f : Nat → Int32) (p : Int32) : Prop := (∀ k, k < 16 → chF f k p = true → ∃ q, q < cnt (fun s => chF f s p) 16 ∧ f (16 + k) = nI q) ∧ ∀ k l, k < 16 → l < 16 → chF f k p = true → chF f l p = true → f (16 + k) = f (16 + l) → k = l
theorem Pl_congr {f g : Nat → Int32} {p : Int32} (hc : ∀ k, k < 16 → chF g k p = chF f k p) (hv : ∀ k, k < 16 → chF f k p = true → g (16 + k) = f (16 + k)) (h : Pl f p) : Pl g p := by
  have e := cnt_congr (p := fun s => chF g s p) (q := fun s => chF f s p) (n := 16) hc
  refine ⟨fun k hk hh => ?_, fun k l hk hl h1 h2 h3 => ?_⟩
  · rw [hc k hk] at hh
    rw [e, hv k hk hh]
    exact h.1 k hk hh
  · rw [hc k hk] at h1
    rw [hc l hl] at h2
    rw [hv k hk h1, hv l hl h2] at h3
    exact h.2 k l hk hl h1 h2 h3
def atF (f : Nat → Int32) (s : Nat) (p q : Int32) : Nat → Int32 := upd (upd (upd (shF f p q 1 16) (64 + s) 1) s p) (16 + s) q
def deF (f : Nat → Int32) (s : Nat) : Nat → Int32 := shF (upd f s (-1)) (trF f s 0) (trF f s 1) (-1) 16
theorem attach_ok {f : Nat → Int32} {s : Nat} {p q : Int32} (hs : s < 16) : X4_attach f (nI s) p q = some (atF f s p q) := by
  unfold X4_attach
  rw [shift_ok, ob_some, include_ok hs, ob_some, show (0 : Int32) = nI 0 from rfl, put_ok hs (by decide), ob_some, show (X4_put _ (nI s) 1 q) = _ from put_ok (w := 1) hs (by decide), ob_some]
  unfold atF
  rw [show 16 * 0 + s = s by omega, show 16 * 1 + s = 16 + s by omega]
theorem detach_ok {f : Nat → Int32} {s : Nat} (hs : s < 16) : X4_detach f (nI s) = some (deF f s) := by
  unfold X4_detach
  rw [show (X4_trait f (nI s) 0) = _ from trait_ok (w := 0) hs (by decide), ob_some, show (X4_trait f (nI s) 1) = _ from trait_ok (w := 1) hs (by decide), ob_some, show (X4_put f (nI s) 0 (-1)) = _ from put_ok (w := 0) hs (by decide), ob_some, shift_ok, ob_some]
  unfold deF
  rw [show 16 * 0 + s = s by omega]
section AT
variable {f : Nat → Int32} {s t : Nat} {p q x : Int32}
theorem at_h (hs : s < 16) (ht : t < 16) : hF (atF f s p q) t = (decide (t = s) || hF f t) := by
  unfold hF atF
  rw [upd_n _ _ (by omega), upd_n _ _ (by omega)]
  by_cases e : t = s
  · subst e; rw [upd_s]; simp
  · rw [upd_n _ _ (by omega), shF_here (by omega) (by omega)]; simp [e]
theorem at_p (hs : s < 16) (ht : t < 16) : atF f s p q t = if t = s then p else f t := by
  unfold atF
  rw [upd_n _ _ (by omega)]
  by_cases e : t = s
  · subst e; rw [upd_s, if_pos rfl]
  · rw [upd_n _ _ e, upd_n _ _ (by omega), shF_par ht, if_neg e]
theorem at_c (hs : s < 16) (ht : t < 16) : chF (atF f s p q) t x = if t = s then (decide (0 < s) && decide (p = x)) else chF f t x := by
  unfold chF
  rw [at_h hs ht, at_p hs ht]
  by_cases e : t = s
  · subst e; simp
  · simp [e]
theorem at_q (hs : s < 16) (ht : t < 16) : atF f s p q (16 + t) = if t = s then q else shF f p q 1 16 (16 + t) := by
  unfold atF
  by_cases e : t = s
  · subst e; rw [upd_s, if_pos rfl]
  · rw [upd_n _ _ (by omega), upd_n _ _ (by omega), upd_n _ _ (by omega), if_neg e]
theorem at_n (hs : s < 16) {i : Nat} (h1 : 32 ≤ i) (h2 : i < 64) : atF f s p q i = f i := by
  unfold atF
  rw [upd_n _ _ (by omega), upd_n _ _ (by omega), upd_n _ _ (by omega), shF_here (by omega) (by omega)]
theorem de_h (hs : s < 16) (ht : t < 16) : hF (deF f s) t = hF f t := by
  unfold deF
  rw [shF_hF (by omega)]
  unfold hF
  rw [upd_n _ _ (by omega)]
theorem de_p (hs : s < 16) (ht : t < 16) : deF f s t = if t = s then -1 else f t := by
  unfold deF
  rw [shF_par ht]
  by_cases e : t = s
  · subst e; rw [upd_s, if_pos rfl]
  · rw [upd_n _ _ e, if_neg e]
theorem de_c (hs : s < 16) (ht : t < 16) : chF (deF f s) t x = if t = s then (decide (0 < s) && (hF f s && decide (-1 = x))) else chF f t x := by
  unfold chF
  rw [de_h hs ht, de_p hs ht]
  by_cases e : t = s
  · subst e; simp
  · simp [e]
theorem de_n (hs : s < 16) {i : Nat} (h1 : 32 ≤ i) : deF f s i = f i := by
  unfold deF
  rw [shF_here (by omega) (by omega), upd_n _ _ (by omega)]
end AT
theorem ch_h {f : Nat → Int32} {k : Nat} {p : Int32} (h : chF f k p = true) : 0 < k ∧ hF f k = true ∧ f k = p := by
  unfold chF at h
  simp at h
  exact h
/-- a place that is shifted -/
theorem sh_q {f : Nat → Int32} {p q d : Int32} {t : Nat} (ht : t < 16) : shF f p q d 16 (16 + t) = if chF f t p = true ∧ q ≤ f (16 + t) then f (16 + t) + d else f (16 + t) := by
  unfold shF
  rw [show 16 + t - 16 = t by omega]
  by_cases hc : chF f t p = true
  · have e : trF f t 1 = f (16 + t) := by rw [trF_here (ch_h hc).2.1]
    rw [e]
    by_cases hq : q ≤ f (16 + t)
    · rw [if_pos ⟨by omega, by omega, hc, hq⟩, if_pos ⟨hc, hq⟩]
    · rw [if_neg (fun z => hq z.2.2.2), if_neg (fun z => hq z.2)]
  · rw [if_neg (fun z => hc z.2.2.1), if_neg (fun z => hc z.1)]
theorem at_Pl {f : Nat → Int32} {s k : Nat} {p : Int32} (h0 : 0 < s) (hs : s < 16) (hn : chF f s p = false) (h : Pl f p) (hk : k ≤ cnt (fun t => chF f t p) 16) : Pl (atF f s p (nI k)) p ∧ cnt (fun t => chF (atF f s p (nI k)) t p) 16 = cnt (fun t => chF f t p) 16 + 1 := by
  have hb : cnt (fun t => chF f t p) 16 ≤ 16 := cnt_le _ _
  have ec : cnt (fun t => chF (atF f s p (nI k)) t p) 16 = cnt (fun t => chF f t p) 16 + 1 := by
    refine cnt_one (s := s) hs (fun t ht hts => ?_) hn ?_
    · show chF (atF f s p (nI k)) t p = chF f t p
      rw [at_c hs ht, if_neg hts]
    · show chF (atF f s p (nI k)) s p = true
      rw [at_c hs hs, if_pos rfl]
      simp [h0]
  refine ⟨⟨fun t ht hc => ?_, fun t l ht hl h1 h2 h3 => ?_⟩, ec⟩
  · rw [ec, at_q hs ht]
    by_cases e : t = s
    · rw [if_pos e]
      exact ⟨k, by omega, rfl⟩
    · rw [if_neg e]
      rw [at_c hs ht, if_neg e] at hc
      obtain ⟨q, q1, q2⟩ := h.1 t ht hc
      rw [sh_q ht, q2]
      by_cases hq : nI k ≤ nI q
      · rw [if_pos ⟨hc, hq⟩, nar_1]
        exact ⟨q + 1, by omega, rfl⟩
      · rw [if_neg (fun z => hq z.2)]
        exact ⟨q, by omega, rfl⟩
  · have key : ∀ t, t < 16 → t ≠ s → chF f t p = true → ∃ q, q < 16 ∧ f (16 + t) = nI q ∧ atF f s p (nI k) (16 + t) = nI (if k ≤ q then q + 1 else q) := by
      intro t ht e hc
      obtain ⟨q, q1, q2⟩ := h.1 t ht hc
      refine ⟨q, by omega, q2, ?_⟩
      rw [at_q hs ht, if_neg e, sh_q ht, q2]
      by_cases hq : k ≤ q
      · rw [if_pos ⟨hc, by rw [c_le (by omega) (by omega)]; exact hq⟩, nar_1, if_pos hq]
      · rw [if_neg (fun z => hq (by rw [c_le (by omega) (by omega)] at z; exact z.2)), if_neg hq]
    have ks : atF f s p (nI k) (16 + s) = nI k := by rw [at_q hs hs, if_pos rfl]
    rw [at_c hs ht] at h1
    rw [at_c hs hl] at h2
    by_cases e1 : t = s <;> by_cases e2 : l = s
    · rw [e1, e2]
    · rw [if_neg e2] at h2
      obtain ⟨q, q1, q2, q3⟩ := key l hl e2 h2
      rw [e1, ks, q3] at h3
      have := i_inj (by omega) (by split <;> omega) h3
      split at this <;> omega
    · rw [if_neg e1] at h1
      obtain ⟨q, q1, q2, q3⟩ := key t ht e1 h1
      rw [e2, ks, q3] at h3
      have := i_inj (by split <;> omega) (by omega) h3
      split at this <;> omega
    · rw [if_neg e1] at h1
      rw [if_neg e2] at h2
      obtain ⟨q, q1, q2, q3⟩ := key t ht e1 h1
      obtain ⟨q', q1', q2', q3'⟩ := key l hl e2 h2
      rw [q3, q3'] at h3
      have := i_inj (by split <;> omega) (by split <;> omega) h3
      have e : q = q' := by
        split at this <;> split at this <;> omega
      exact h.2 t l ht hl h1 h2 (by rw [q2, q2', e])
/-- another parent's places stay -/
theorem at_Pl_o {f : Nat → Int32} {s : Nat} {p q x : Int32} (hs : s < 16) (hx : p ≠ x) (hn : chF f s x = false) (h : Pl f x) : Pl (atF f s p q) x ∧ cnt (fun t => chF (atF f s p q) t x) 16 = cnt (fun t => chF f t x) 16 := by
  have hc : ∀ k, k < 16 → chF (atF f s p q) k x = chF f k x := by
    intro k hk
    rw [at_c hs hk]
    by_cases e : k = s
    · rw [if_pos e, e, hn]
      simp [hx]
    · rw [if_neg e]
  refine ⟨Pl_congr hc (fun k hk hh => ?_) h, cnt_congr hc⟩
  have e : k ≠ s := by
    intro e
    rw [e, hn] at hh
    cases hh
  rw [at_q hs hk, if_neg e, sh_q hk, if_neg]
  intro z
  exact hx ((ch_h z.1).2.2.symm.trans (ch_h hh).2.2)
theorem de_Pl {f : Nat → Int32} {s : Nat} {p : Int32} (hs : s < 16) (hc : chF f s p = true) (hp : p ≠ -1) (h : Pl f p) : Pl (deF f s) p ∧ cnt (fun t => chF (deF f s) t p) 16 + 1 = cnt (fun t => chF f t p) 16 := by
  have hb : cnt (fun t => chF f t p) 16 ≤ 16 := cnt_le _ _
  obtain ⟨h0, hh, hfp⟩ := ch_h hc
  have ec : cnt (fun t => chF f t p) 16 = cnt (fun t => chF (deF f s) t p) 16 + 1 := by
    refine cnt_one (s := s) hs (fun t ht hts => ?_) ?_ hc
    · show chF f t p = chF (deF f s) t p
      rw [de_c hs ht, if_neg hts]
    · show chF (deF f s) s p = false
      rw [de_c hs hs, if_pos rfl]
      simp [Ne.symm hp]
  obtain ⟨k0, k1, k2⟩ := h.1 s hs hc
  have key : ∀ t, t < 16 → t ≠ s → chF f t p = true → ∃ q, q < cnt (fun t => chF f t p) 16 ∧ q ≠ k0 ∧ f (16 + t) = nI q ∧ deF f s (16 + t) = nI (if k0 ≤ q then q - 1 else q) := by
    intro t ht e hct
    obtain ⟨q, q1, q2⟩ := h.1 t ht hct
    have hne : q ≠ k0 := fun z => e (h.2 t s ht hs hct hc (by rw [q2, k2, z]))
    refine ⟨q, q1, hne, q2, ?_⟩
    unfold deF
    have ec2 : chF (upd f s (-1)) t p = true := by
      unfold chF hF at hct ⊢
      rw [upd_n _ _ (by omega), upd_n _ _ e]
      exact hct
    rw [sh_q ht, upd_n _ _ (by omega), trF_here hh, trF_here hh, show 16 * 0 + s = s by omega, hfp, show 16 * 1 + s = 16 + s by omega, k2, q2]
    by_cases hq : k0 ≤ q
    · rw [if_pos ⟨ec2, by rw [c_le (by omega) (by omega)]; exact hq⟩, if_pos hq]
      have := pk_m1 (q - 1)
      rw [show q - 1 + 1 = q by omega] at this
      exact this
    · rw [if_neg (fun z => hq (by rw [c_le (by omega) (by omega)] at z; exact z.2)), if_neg hq]
  have hne : ∀ t, t < 16 → chF (deF f s) t p = true → t ≠ s ∧ chF f t p = true := by
    intro t ht hct
    rw [de_c hs ht] at hct
    by_cases e : t = s
    · rw [if_pos e] at hct
      simp [Ne.symm hp] at hct
    · rw [if_neg e] at hct
      exact ⟨e, hct⟩
  refine ⟨⟨fun t ht hct => ?_, fun t l ht hl h1 h2 h3 => ?_⟩, ec.symm⟩
  · obtain ⟨e, hct⟩ := hne t ht hct
    obtain ⟨q, q1, q2, q3, q4⟩ := key t ht e hct
    refine ⟨_, ?_, q4⟩
    split <;> omega
  · obtain ⟨e1, h1⟩ := hne t ht h1
    obtain ⟨e2, h2⟩ := hne l hl h2
    obtain ⟨q, q1, q2, q3, q4⟩ := key t ht e1 h1
    obtain ⟨q', q1', q2', q3', q4'⟩ := key l hl e2 h2
    rw [q4, q4'] at h3
    have := i_inj (by split <;> omega) (by split <;> omega) h3
    have e : q = q' := by
      split at this <;> split at this <;> omega
    exact h.2 t l ht hl h1 h2 (by rw [q3, q3', e])
theorem de_Pl_o {f : Nat → Int32} {s : Nat} {p x : Int32} (hs : s < 16) (hc : chF f s p = true) (hx : p ≠ x) (hx1 : x ≠ -1) (h : Pl f x) : Pl (deF f s) x ∧ cnt (fun t => chF (deF f s) t x) 16 = cnt (fun t => chF f t x) 16 := by
  obtain ⟨h0, hh, hfp⟩ := ch_h hc
  have hn : chF f s x = false := by
    rw [← Bool.not_eq_true]
    intro z
    exact hx (hfp.symm.trans (ch_h z).2.2)
  have hcc : ∀ k, k < 16 → chF (deF f s) k x = chF f k x := by
    intro k hk
    rw [de_c hs hk]
    by_cases e : k = s
    · rw [if_pos e, e, hn]
      simp [Ne.symm hx1]
    · rw [if_neg e]
  refine ⟨Pl_congr hcc (fun k hk hct => ?_) h, cnt_congr hcc⟩
  have e : k ≠ s := by
    intro e
    rw [e, hn] at hct
    cases hct
  unfold deF
  rw [sh_q hk, upd_n _ _ (by omega), if_neg]
  intro z
  have hz := (ch_h z.1).2.2
  rw [upd_n _ _ e, trF_here hh, show 16 * 0 + s = s by omega, hfp] at hz
  exact hx (hz.symm.trans (ch_h hct).2.2)
