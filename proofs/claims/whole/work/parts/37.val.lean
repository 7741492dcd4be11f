/-! ===== PHASE B: a row that is a tree, with places and words ===== -/
def Val (f : Nat → Int32) : Prop := CloF f ∧ Acy (hF f) (PF f) ∧ f 16 = 0 ∧ (∀ t, t < 16 → Pl f (nI t)) ∧ ∀ k, k < 16 → hF f k = true → (∃ a, a < 100 ∧ f (32 + k) = nI a) ∧ ∃ a, a < 100 ∧ f (48 + k) = nI a
theorem up_same {H : Nat → Bool} {P P' : Nat → Nat} (hC : Clo H P) (h : ∀ k, k < 16 → H k = true → P' k = P k) : ∀ (i t : Nat), t < 16 → H t = true → up P' i t = up P i t
  | 0, _, _, _ => rfl
  | i + 1, t, h1, h2 => by
    show up P' i (P' t) = up P i (P t)
    rw [h t h1 h2]
    exact up_same hC h i (P t) (hC.2.2 t h1 h2).1 (hC.2.2 t h1 h2).2
theorem Acy_add {H H' : Nat → Bool} {P P' : Nat → Nat} {s p : Nat} (hC : Clo H P) (hA : Acy H P) (hs : H s = false) (hH : ∀ t, t < 16 → t ≠ s → H' t = H t) (hP : ∀ t, t < 16 → t ≠ s → P' t = P t) (hp : P' s = p) (hp1 : p < 16) (hp2 : H p = true) : Acy H' P' := by
  have hsame : ∀ k, k < 16 → H k = true → P' k = P k := fun k h1 h2 => hP k h1 (fun e => by rw [e, hs] at h2; cases h2)
  intro t ht hh
  by_cases e : t = s
  · obtain ⟨i, hi⟩ := hA p hp1 hp2
    refine ⟨i + 1, ?_⟩
    show up P' i (P' t) = 0
    rw [e, hp, up_same hC hsame i p hp1 hp2]
    exact hi
  · rw [hH t ht e] at hh
    obtain ⟨i, hi⟩ := hA t ht hh
    exact ⟨i, by rw [up_same hC hsame i t ht hh]; exact hi⟩
theorem Acy_move {H : Nat → Bool} {P P' : Nat → Nat} {s p : Nat} (hC : Clo H P) (hA : Acy H P) (hP : ∀ t, t < 16 → t ≠ s → P' t = P t) (hp : P' s = p) (hp1 : p < 16) (hp2 : H p = true) (hn : ¬ ∃ i, up P i p = s) : Acy H P' := by
  have hup : ∀ i, up P' i p = up P i p := by
    intro i
    induction i with
    | zero => rfl
    | succ i ih =>
      rw [up_succ, up_succ, ih]
      exact hP _ (hC.up i p hp1 hp2).1 (fun e => hn ⟨i, e⟩)
  have hgo : ∀ i t, t < 16 → H t = true → up P i t = 0 → ∃ i', up P' i' t = 0 := by
    intro i
    induction i with
    | zero =>
      intro t _ _ h
      exact ⟨0, h⟩
    | succ i ih =>
      intro t ht hh h
      by_cases e : t = s
      · obtain ⟨m, hm⟩ := hA p hp1 hp2
        refine ⟨m + 1, ?_⟩
        show up P' m (P' t) = 0
        rw [e, hp, hup]
        exact hm
      · obtain ⟨i', hi'⟩ := ih (P t) (hC.2.2 t ht hh).1 (hC.2.2 t ht hh).2 h
        refine ⟨i' + 1, ?_⟩
        show up P' i' (P' t) = 0
        rw [hP t ht e]
        exact hi'
  intro t ht hh
  obtain ⟨i, hi⟩ := hA t ht hh
  exact hgo i t ht hh hi
theorem Val.pl {f : Nat → Int32} (h : Val f) {k : Nat} (h0 : 0 < k) (hk : k < 16) (hh : hF f k = true) : chF f k (nI (PF f k)) = true ∧ ∃ q, q < 16 ∧ f (16 + k) = nI q := by
  obtain ⟨p1, p2, p3⟩ := h.1.par h0 hk hh
  have hc : chF f k (nI (PF f k)) = true := by
    unfold chF
    rw [hh, p1]
    simp [h0]
  obtain ⟨q, q1, q2⟩ := (h.2.2.2.1 (PF f k) p2).1 k hk hc
  have := cnt_le (fun s => chF f s (nI (PF f k))) 16
  exact ⟨hc, q, by omega, q2⟩
/-- ADD -/
def adF (f : Nat → Int32) (s : Nat) (p q n t : Int32) : Nat → Int32 := upd (upd (atF f s p q) (32 + s) n) (48 + s) t
theorem PF_of {g : Nat → Int32} {k p : Nat} (h0 : k ≠ 0) (hp : p < 16) (h : g k = nI p) : PF g k = p := by
  unfold PF
  rw [if_neg h0, h, i_tn (by omega)]
theorem PF_same {f g : Nat → Int32} {k : Nat} (h : g k = f k) : PF g k = PF f k := by unfold PF; rw [h]
theorem hh_of {f : Nat → Int32} {k : Nat} : (hF f k = true) = (f (64 + k) = 1) := by unfold hF; simp
theorem Val_add {f : Nat → Int32} {s p k n t : Nat} (hV : Val f) (h0 : 0 < s) (hs : s < 16) (hn : hF f s = false) (hp : p < 16) (hpp : hF f p = true) (hk : k ≤ cnt (fun x => chF f x (nI p)) 16) (hn1 : n < 100) (ht1 : t < 100) : Val (adF f s (nI p) (nI k) (nI n) (nI t)) := by
  have hcn : ∀ x, chF f s x = false := by
    intro x
    unfold chF
    rw [hn]
    simp
  have lo : ∀ i, i < 32 → adF f s (nI p) (nI k) (nI n) (nI t) i = atF f s (nI p) (nI k) i := by
    intro i hi
    unfold adF
    rw [upd_n _ _ (by omega), upd_n _ _ (by omega)]
  have hi : ∀ i, 64 ≤ i → adF f s (nI p) (nI k) (nI n) (nI t) i = atF f s (nI p) (nI k) i := by
    intro i hi
    unfold adF
    rw [upd_n _ _ (by omega), upd_n _ _ (by omega)]
  have eh : ∀ x, x < 16 → hF (adF f s (nI p) (nI k) (nI n) (nI t)) x = (decide (x = s) || hF f x) := by
    intro x hx
    rw [← at_h (f := f) (p := nI p) (q := nI k) hs hx]
    unfold hF
    rw [hi _ (by omega)]
  have ep : ∀ x, x < 16 → adF f s (nI p) (nI k) (nI n) (nI t) x = if x = s then nI p else f x := by
    intro x hx
    rw [lo x (by omega), at_p hs hx]
  have ec : ∀ x y, x < 16 → chF (adF f s (nI p) (nI k) (nI n) (nI t)) x y = chF (atF f s (nI p) (nI k)) x y := by
    intro x y hx
    unfold chF
    rw [lo x (by omega)]
    unfold hF
    rw [hi _ (by omega)]
  have ne0 : p ≠ s := by
    intro e
    rw [e, hn] at hpp
    cases hpp
  refine ⟨⟨?_, ?_, ?_, ?_⟩, ?_, ?_, ?_, ?_⟩
  · have := eh 0 (by decide)
    rw [hV.1.clo.1] at this
    simp at this
    rw [hh_of] at this
    exact this
  · rw [ep 0 (by decide), if_neg (by omega)]
    exact hV.1.2.1
  · intro x hx
    rw [hi _ (by omega)]
    unfold atF
    rw [upd_n _ _ (by omega), upd_n _ _ (by omega)]
    by_cases e : x = s
    · subst e; rw [upd_s]; exact Or.inl rfl
    · rw [upd_n _ _ (by omega), shF_here (by omega) (by omega)]
      exact hV.1.2.2.1 x hx
  · intro x hx0 hx hh
    have hx2 := eh x hx
    rw [← hh_of] at hh
    rw [hh] at hx2
    by_cases e : x = s
    · refine ⟨p, hp, by rw [ep x hx, if_pos e], ?_⟩
      rw [← hh_of, eh p hp, hpp]
      simp
    · simp [e] at hx2
      obtain ⟨q1, q2, q3⟩ := hV.1.par hx0 hx hx2
      refine ⟨PF f x, q2, by rw [ep x hx, if_neg e]; exact q1, ?_⟩
      rw [← hh_of, eh _ q2, q3]
      simp
  · refine Acy_add (s := s) (p := p) hV.1.clo hV.2.1 hn (fun x hx e => ?_) (fun x hx e => ?_) ?_ hp hpp
    · rw [eh x hx]; simp [e]
    · exact PF_same (by rw [ep x hx, if_neg e])
    · exact PF_of (by omega) hp (by rw [ep s hs, if_pos rfl])
  · rw [lo 16 (by decide), show (16 : Nat) = 16 + 0 from rfl, at_q hs (by decide), if_neg (by omega), sh_q (by decide), if_neg]
    · exact hV.2.2.1
    · intro z
      exact absurd (ch_h z.1).1 (by decide)
  · intro x hx
    have hpl := hV.2.2.2.1 x hx
    have hpl2 : Pl (atF f s (nI p) (nI k)) (nI x) := by
      by_cases e : p = x
      · subst e
        exact (at_Pl h0 hs (hcn _) hpl hk).1
      · exact (at_Pl_o hs (fun z => e (i_inj (by omega) (by omega) z)) (hcn _) hpl).1
    exact Pl_congr (fun y hy => ec y _ hy) (fun y hy _ => lo _ (by omega)) hpl2
  · intro x hx hh
    unfold adF
    by_cases e : x = s
    · subst e
      rw [upd_n _ _ (by omega), upd_s, upd_s]
      exact ⟨⟨n, hn1, rfl⟩, t, ht1, rfl⟩
    · rw [eh x hx] at hh
      simp [e] at hh
      rw [upd_n _ _ (by omega), upd_n _ _ (by omega), upd_n _ _ (by omega), upd_n _ _ (by omega), at_n hs (by omega) (by omega), at_n hs (by omega) (by omega)]
      exact hV.2.2.2.2 x hx hh
/-- MOVE -/
theorem Val_move {f : Nat → Int32} {s p k : Nat} (hV : Val f) (h0 : 0 < s) (hs : s < 16) (hh : hF f s = true) (hp : p < 16) (hpp : hF f p = true) (hb : belN (PF f) 16 p s = false) (hk : k ≤ cnt (fun x => chF (deF f s) x (nI p)) 16) : Val (atF (deF f s) s (nI p) (nI k)) := by
  obtain ⟨hc, -⟩ := hV.pl h0 hs hh
  have hP0 : PF f s < 16 := (hV.1.par h0 hs hh).2.1
  have ep : ∀ x, x < 16 → atF (deF f s) s (nI p) (nI k) x = if x = s then nI p else f x := by
    intro x hx
    rw [at_p hs hx]
    split
    · rfl
    · rename_i e
      rw [de_p hs hx, if_neg e]
  have eh : ∀ x, x < 16 → hF (atF (deF f s) s (nI p) (nI k)) x = hF f x := by
    intro x hx
    rw [at_h hs hx, de_h hs hx]
    by_cases e : x = s
    · rw [e, hh]; simp
    · simp [e]
  have e64 : ∀ x, x < 16 → x ≠ s → atF (deF f s) s (nI p) (nI k) (64 + x) = f (64 + x) := by
    intro x hx e
    unfold atF
    rw [upd_n _ _ (by omega), upd_n _ _ (by omega), upd_n _ _ (by omega), shF_here (by omega) (by omega), de_n hs (by omega)]
  have hps : p ≠ s := by
    intro e
    rw [e] at hb
    have : belN (PF f) 16 s s = true := by
      show (decide (s = s) || _) = true
      simp
    rw [this] at hb
    cases hb
  have hcn : ∀ x, x < 16 → chF (deF f s) s (nI x) = false := by
    intro x hx
    rw [de_c hs hs, if_pos rfl]
    simp [Ne.symm (i_m1 (a := x) (by omega))]
  have hpl1 : ∀ x, x < 16 → Pl (deF f s) (nI x) := by
    intro x hx
    by_cases e : PF f s = x
    · subst e
      exact (de_Pl hs hc (i_m1 (by omega)) (hV.2.2.2.1 _ hx)).1
    · exact (de_Pl_o hs hc (fun z => e (i_inj (by omega) (by omega) z)) (i_m1 (by omega)) (hV.2.2.2.1 x hx)).1
  refine ⟨⟨?_, ?_, ?_, ?_⟩, ?_, ?_, ?_, ?_⟩
  · have := e64 0 (by decide) (by omega)
    rw [this]
    exact hV.1.1
  · rw [ep 0 (by decide), if_neg (by omega)]
    exact hV.1.2.1
  · intro x hx
    by_cases e : x = s
    · have := eh x hx
      rw [e, hh] at this
      rw [e]
      exact Or.inl (by rw [← hh_of]; exact this)
    · rw [e64 x hx e]
      exact hV.1.2.2.1 x hx
  · intro x hx0 hx hx1
    rw [← hh_of, eh x hx] at hx1
    by_cases e : x = s
    · refine ⟨p, hp, by rw [ep x hx, if_pos e], ?_⟩
      rw [← hh_of, eh p hp]
      exact hpp
    · obtain ⟨q1, q2, q3⟩ := hV.1.par hx0 hx hx1
      refine ⟨PF f x, q2, by rw [ep x hx, if_neg e]; exact q1, ?_⟩
      rw [← hh_of, eh _ q2]
      exact q3
  · have key := Acy_move (P' := PF (atF (deF f s) s (nI p) (nI k))) (s := s) (p := p) hV.1.clo hV.2.1 (fun x hx e => PF_same (by rw [ep x hx, if_neg e])) (PF_of (by omega) hp (by rw [ep s hs, if_pos rfl])) hp hpp (fun z => by
      rw [← bel_any hV.1.clo hV.2.1 hp hpp, hb] at z
      cases z)
    intro x hx hx1
    rw [eh x hx] at hx1
    exact key x hx hx1
  · rw [show (16 : Nat) = 16 + 0 from rfl, at_q hs (by decide), if_neg (by omega), sh_q (by decide), if_neg (fun z => absurd (ch_h z.1).1 (by decide))]
    unfold deF
    rw [sh_q (by decide), if_neg (fun z => absurd (ch_h z.1).1 (by decide)), upd_n _ _ (by omega)]
    exact hV.2.2.1
  · intro x hx
    by_cases e : p = x
    · subst e
      exact (at_Pl h0 hs (hcn _ hx) (hpl1 _ hx) hk).1
    · exact (at_Pl_o hs (fun z => e (i_inj (by omega) (by omega) z)) (hcn _ hx) (hpl1 x hx)).1
  · intro x hx hx1
    rw [eh x hx] at hx1
    rw [at_n hs (by omega) (by omega), at_n hs (by omega) (by omega), de_n hs (by omega), de_n hs (by omega)]
    exact hV.2.2.2.2 x hx hx1
/-- NAME and TEXT told anew -/
theorem Val_put {f : Nat → Int32} {s w v : Nat} (hV : Val f) (hs : s < 16) (hw : w = 2 ∨ w = 3) (hv : v < 100) : Val (upd f (16 * w + s) (nI v)) := by
  have e1 : ∀ i, i < 32 → upd f (16 * w + s) (nI v) i = f i := fun i hi => upd_n _ _ (by omega)
  have e2 : ∀ i, 64 ≤ i → upd f (16 * w + s) (nI v) i = f i := fun i hi => upd_n _ _ (by omega)
  have eh : ∀ x, hF (upd f (16 * w + s) (nI v)) x = hF f x := fun x => by unfold hF; rw [e2 _ (by omega)]
  have ec : ∀ x y, x < 16 → chF (upd f (16 * w + s) (nI v)) x y = chF f x y := fun x y hx => by unfold chF; rw [eh, e1 x (by omega)]
  have ePF : ∀ x, x < 16 → PF (upd f (16 * w + s) (nI v)) x = PF f x := fun x hx => PF_same (e1 x (by omega))
  refine ⟨⟨?_, ?_, ?_, ?_⟩, ?_, ?_, ?_, ?_⟩
  · rw [e2 _ (by decide)]; exact hV.1.1
  · rw [e1 _ (by decide)]; exact hV.1.2.1
  · intro x hx; rw [e2 _ (by omega)]; exact hV.1.2.2.1 x hx
  · intro x hx0 hx h1
    rw [e2 _ (by omega)] at h1
    obtain ⟨q, q1, q2, q3⟩ := hV.1.2.2.2 x hx0 hx h1
    exact ⟨q, q1, by rw [e1 _ (by omega)]; exact q2, by rw [e2 _ (by omega)]; exact q3⟩
  · intro x hx h1
    rw [eh] at h1
    obtain ⟨i, hi⟩ := hV.2.1 x hx h1
    exact ⟨i, by rw [up_same hV.1.clo (fun y hy _ => ePF y hy) i x hx h1]; exact hi⟩
  · rw [e1 _ (by decide)]; exact hV.2.2.1
  · intro x hx
    exact Pl_congr (fun y hy => ec y _ hy) (fun y hy _ => e1 _ (by omega)) (hV.2.2.2.1 x hx)
  · intro x hx h1
    rw [eh] at h1
    obtain ⟨⟨a, a1, a2⟩, c, c1, c2⟩ := hV.2.2.2.2 x hx h1
    rcases hw with hw | hw
    · subst hw
      refine ⟨?_, c, c1, by rw [upd_n _ _ (by omega)]; exact c2⟩
      by_cases e : x = s
      · subst e; exact ⟨v, hv, upd_s _ _ _⟩
      · exact ⟨a, a1, by rw [upd_n _ _ (by omega)]; exact a2⟩
    · subst hw
      refine ⟨⟨a, a1, by rw [upd_n _ _ (by omega)]; exact a2⟩, ?_⟩
      by_cases e : x = s
      · subst e; exact ⟨v, hv, upd_s _ _ _⟩
      · exact ⟨c, c1, by rw [upd_n _ _ (by omega)]; exact c2⟩
