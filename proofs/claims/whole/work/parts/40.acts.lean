/-! ===== PHASE B: the acts on the three outlines ===== -/
/-- desk d of the class and the reference's row g from off on: the same outlines, side and free number -/
def DR (u : Mem) (d : Nat) (g : Nat → Int32) (off : Nat) : Prop :=
  (∀ o, o < 3 → RR (u (25 + (3 * d + o))) g (off + 64 * o)) ∧ u (50 + d) 3 = g (off + 256) ∧ u (50 + d) 4 = g (off + 257)
/-- desk d is well formed -/
def DV (u : Mem) (d : Nat) : Prop :=
  (∀ o, o < 3 → Val (u (25 + (3 * d + o)))) ∧ (u (50 + d) 3 = 1 ∨ u (50 + d) 3 = 2) ∧ ∃ n, 1 ≤ n ∧ n ≤ 16 ∧ u (50 + d) 4 = nI n ∧ ∀ o k, o < 3 → n ≤ k → k < 16 → hF (u (25 + (3 * d + o))) k = false
def DS (u v : Mem) : Prop := DR u 0 (v 1) 0 ∧ DV u 0
def FX (u u' : Mem) : Prop := ∀ i, i ≠ 25 → i ≠ 26 → i ≠ 27 → i ≠ 50 → u' i = u i
def FY (v v' : Mem) : Prop := ∀ i, i ≠ 1 → v' i = v i
/-- what an act does on both sides -/
def Act (u v : Mem) (cx cy : Option (Int32 × Mem)) : Prop := ∃ r u' v', cx = some (r, u') ∧ cy = some (r, v') ∧
  (((r = -2 ∨ r = -3 ∨ r = -4) ∧ u' = u ∧ v' = v) ∨ ((∃ n, n < 1000 ∧ r = nI n) ∧ DS u' v' ∧ FX u u' ∧ FY v v'))
theorem Act.bad {u v : Mem} {cx cy : Option (Int32 × Mem)} (h1 : cx = some (-2, u)) (h2 : cy = some (-2, v)) : Act u v cx cy := ⟨-2, u, v, h1, h2, Or.inl ⟨Or.inl rfl, rfl, rfl⟩⟩
theorem DS.rr {u v : Mem} (h : DS u v) {o : Nat} (ho : o < 3) : RR (u (25 + o)) (v 1) (64 * o) := by
  have := h.1.1 o ho
  rw [show 25 + (3 * 0 + o) = 25 + o by omega, show 0 + 64 * o = 64 * o by omega] at this
  exact this
theorem DS.val {u v : Mem} (h : DS u v) {o : Nat} (ho : o < 3) : Val (u (25 + o)) := by
  have := h.2.1 o ho
  rw [show 25 + (3 * 0 + o) = 25 + o by omega] at this
  exact this
theorem DS.mk {u v : Mem} (h1 : ∀ o, o < 3 → RR (u (25 + o)) (v 1) (64 * o)) (h2 : ∀ o, o < 3 → Val (u (25 + o))) (h3 : u 50 3 = v 1 256) (h4 : u 50 4 = v 1 257) (h5 : u 50 3 = 1 ∨ u 50 3 = 2) (h6 : ∃ n, 1 ≤ n ∧ n ≤ 16 ∧ u 50 4 = nI n ∧ ∀ o k, o < 3 → n ≤ k → k < 16 → hF (u (25 + o)) k = false) : DS u v := by
  refine ⟨⟨fun o ho => ?_, h3, h4⟩, fun o ho => ?_, h5, ?_⟩
  · rw [show 25 + (3 * 0 + o) = 25 + o by omega, show 0 + 64 * o = 64 * o by omega]
    exact h1 o ho
  · rw [show 25 + (3 * 0 + o) = 25 + o by omega]
    exact h2 o ho
  · obtain ⟨n, a, b, c, d⟩ := h6
    refine ⟨n, a, b, c, fun o k ho h7 h8 => ?_⟩
    rw [show 25 + (3 * 0 + o) = 25 + o by omega]
    exact d o k ho h7 h8
theorem DS.fr {u v : Mem} (h : DS u v) : ∃ n, 1 ≤ n ∧ n ≤ 16 ∧ u 50 4 = nI n ∧ v 1 257 = nI n ∧ ∀ o k, o < 3 → n ≤ k → k < 16 → hF (u (25 + o)) k = false := by
  obtain ⟨n, a, b, c, d⟩ := h.2.2.2
  refine ⟨n, a, b, c, by rw [← c]; exact h.1.2.2.symm, fun o k ho h7 h8 => ?_⟩
  have := d o k ho h7 h8
  rw [show 25 + (3 * 0 + o) = 25 + o by omega] at this
  exact this
/-- one outline told anew, the others as they were -/
theorem DS.upd1 {u v : Mem} (h : DS u v) {o : Nat} (ho : o < 3) {f g : Nat → Int32} (hV : Val f) (hR : RR f g (64 * o)) (hg : ∀ i, (i < 64 * o ∨ 64 * o + 64 ≤ i) → g i = v 1 i) (hf : ∀ k, k < 16 → hF f k = true → hF (u (25 + o)) k = true) : DS (upm u (25 + o) f) (upm v 1 g) := by
  obtain ⟨n, a, b, c, d, e⟩ := h.fr
  refine DS.mk (fun x hx => ?_) (fun x hx => ?_) ?_ ?_ ?_ ⟨n, a, b, ?_, fun x k hx h7 h8 => ?_⟩
  · rw [upm_same]
    by_cases hxo : x = o
    · rw [hxo, upm_same]; exact hR
    · rw [upm_ne _ _ (by omega)]
      exact rr_keep (h.rr hx) (fun i h1 h2 => hg i (by omega))
  · by_cases hxo : x = o
    · rw [hxo, upm_same]; exact hV
    · rw [upm_ne _ _ (by omega)]; exact h.val hx
  · rw [upm_ne _ _ (by omega), upm_same, hg 256 (by omega)]; exact h.1.2.1
  · rw [upm_ne _ _ (by omega), upm_same, hg 257 (by omega)]; exact h.1.2.2
  · rw [upm_ne _ _ (by omega)]; exact h.2.2.1
  · rw [upm_ne _ _ (by omega)]; exact c
  · by_cases hxo : x = o
    · rw [hxo, upm_same, ← Bool.not_eq_true]
      intro z
      have := hf k h8 z
      rw [e o k ho h7 h8] at this
      cases this
    · rw [upm_ne _ _ (by omega)]; exact e x k hx h7 h8
/-! which numbers are asked for -/
theorem own_cases (p : Int32) : (X8_isOwnOutline p = some false ∧ X9_isOutline p = some false) ∨ ∃ o, o < 3 ∧ p = nI o ∧ X8_isOwnOutline p = some true ∧ X9_isOutline p = some true := by
  rcases i_cases p (n := 3) (by decide) with h | h | ⟨o, h1, h2⟩
  · left
    have n0 : p ≠ 0 := by intro e; subst e; exact absurd h (by decide)
    have n1 : p ≠ 1 := by intro e; subst e; exact absurd h (by decide)
    have n2 : p ≠ 2 := by intro e; subst e; exact absurd h (by decide)
    constructor
    · unfold X8_isOwnOutline X8_isSide
      rw [if_neg n0, if_neg n1, if_neg n2, ob_some, if_pos (by decide)]
    · unfold X9_isOutline X9_in
      rw [if_pos h]; rfl
  · left
    have n0 : p ≠ 0 := by intro e; subst e; exact absurd h (by decide)
    have n1 : p ≠ 1 := by intro e; subst e; exact absurd h (by decide)
    have n2 : p ≠ 2 := by intro e; subst e; exact absurd h (by decide)
    have h3 : (2 : Int32) < p := Int32.lt_of_lt_of_le (by decide) h
    have h4 : ¬ p < 0 := fun z => absurd (Int32.lt_trans h3 z) (by decide)
    constructor
    · unfold X8_isOwnOutline X8_isSide
      rw [if_neg n0, if_neg n1, if_neg n2, ob_some, if_pos (by decide)]
    · unfold X9_isOutline X9_in
      rw [if_neg h4, if_pos h3]; rfl
  · right
    refine ⟨o, h1, h2, ?_⟩
    subst h2
    rcases (show o = 0 ∨ o = 1 ∨ o = 2 by omega) with e | e | e <;> subst e <;> decide
theorem side_cases (p : Int32) : (X8_isSide p = some false ∧ X9_in p 1 2 = some false) ∨ ∃ o, (o = 1 ∨ o = 2) ∧ p = nI o ∧ X8_isSide p = some true ∧ X9_in p 1 2 = some true := by
  by_cases e1 : p = 1
  · right; exact ⟨1, Or.inl rfl, e1, by subst e1; decide, by subst e1; decide⟩
  · by_cases e2 : p = 2
    · right; exact ⟨2, Or.inr rfl, e2, by subst e2; decide, by subst e2; decide⟩
    · left
      constructor
      · unfold X8_isSide
        rw [if_neg e1, if_neg e2]
      · unfold X9_in
        rcases i_cases p (n := 3) (by decide) with h | h | ⟨o, h1, h2⟩
        · rw [if_pos (Int32.lt_trans h (by decide))]
        · have h3 : (2 : Int32) < p := Int32.lt_of_lt_of_le (by decide) h
          rw [if_neg (fun z => absurd (Int32.lt_trans h3 z) (by decide)), if_pos h3]
        · subst h2
          rcases (show o = 0 ∨ o = 1 ∨ o = 2 by omega) with e | e | e
          · subst e; decide
          · subst e; exact absurd rfl e1
          · subst e; exact absurd rfl e2
theorem word_cases (p : Int32) : (X8_isValue p = some false ∧ X9_isWord p = some false) ∨ ∃ n, n < 100 ∧ p = nI n ∧ X8_isValue p = some true ∧ X9_isWord p = some true := by
  unfold X8_isValue X9_isWord X9_in
  rcases i_cases p (n := 100) (by decide) with h | h | ⟨n, h1, h2⟩
  · left; rw [if_pos h, if_pos h]; exact ⟨rfl, rfl⟩
  · left
    have h3 : (99 : Int32) < p := Int32.lt_of_lt_of_le (by decide) h
    have h4 : ¬ p < 0 := fun z => absurd (Int32.lt_trans h3 z) (by decide)
    rw [if_neg h4, if_pos (show (100 : Int32) ≤ p from h), if_neg h4, if_pos h3]
    exact ⟨rfl, rfl⟩
  · right
    subst h2
    refine ⟨n, h1, rfl, ?_⟩
    rw [if_neg (i_nn (by omega)), if_neg (by rw [nle_100 (by omega)]; omega), if_neg (i_nn (by omega)), if_neg (by rw [nlt_99 (by omega)]; omega)]
    exact ⟨rfl, rfl⟩
/-- a section that is asked for: it is there on both sides, or on neither -/
theorem there_cases {v : Mem} {f : Nat → Int32} {x : Int32} {o : Nat} (hx : x = nI o) (ho : o < 4) (hR : RR f (v 1) (64 * o)) (y : Int32) : (X4_holds f y = some false ∧ X9_isThere v x y = some false) ∨ ∃ k, k < 16 ∧ y = nI k ∧ hF f k = true ∧ X4_holds f y = some true ∧ X9_isThere v x y = some true := by
  rcases out_cases y with h | ⟨k, hk, e⟩
  · left
    refine ⟨holds_out h, ?_⟩
    unfold X9_isThere X9_in
    rcases h with h | h
    · rw [if_pos h]; rfl
    · have h3 : (15 : Int32) < y := Int32.lt_of_lt_of_le (by decide) h
      rw [if_neg (fun z => absurd (Int32.lt_trans h3 z) (by decide)), if_pos h3]; rfl
  · subst e
    have e1 : X9_isThere v x (nI k) = some (hF f k) := by
      unfold X9_isThere X9_in
      rw [if_neg (i_nn (by omega)), if_neg (by rw [nlt_15 (by omega)]; omega), ob_some, if_neg (by decide), rIn hx rfl ho hk, ob_some, rr_h hR hk]
      cases hF f k <;> rfl
    cases hh : hF f k
    · left; exact ⟨by rw [holds_ok hk, hh], by rw [e1, hh]⟩
    · right; exact ⟨k, hk, rfl, hh, by rw [holds_ok hk, hh], by rw [e1, hh]⟩
theorem outl_ok (u : Mem) {o : Nat} (ho : o < 3) : X0_outline u 0 (nI o) = some o := by
  rcases (show o = 0 ∨ o = 1 ∨ o = 2 by omega) with e | e | e <;> subst e <;> rfl
/-- a place from 0 to n -/
theorem in_cases (x : Int32) {n : Nat} (hn : n < 1000) : ((x < 0 ∨ ¬ x ≤ nI n) ∧ X9_in x 0 (nI n) = some false) ∨ ∃ k, k ≤ n ∧ x = nI k ∧ X9_in x 0 (nI n) = some true := by
  unfold X9_in
  rcases i_cases x (n := n + 1) (by omega) with h | h | ⟨k, h1, h2⟩
  · left; rw [if_pos h]; exact ⟨Or.inl h, rfl⟩
  · left
    have h3 : nI n < x := Int32.lt_of_lt_of_le (by rw [c_lt (by omega) (by omega)]; omega) h
    have h4 : ¬ x < 0 := fun z => absurd (Int32.lt_trans h3 z) (i_nn (by omega))
    rw [if_neg h4, if_pos h3]
    exact ⟨Or.inr (Int32.not_le.mpr h3), rfl⟩
  · right
    subst h2
    refine ⟨k, by omega, rfl, ?_⟩
    rw [if_neg (i_nn (by omega)), if_neg (by rw [c_lt (by omega) (by omega)]; omega)]
theorem bt_t : ¬ b2i true = 0 := by decide
theorem bt_f : b2i false = 0 := by decide
theorem FX.upm {u : Mem} {o : Nat} (ho : o < 3) {f : Nat → Int32} : FX u (upm u (25 + o) f) := fun i h1 h2 h3 _ => upm_ne _ _ (by omega)
theorem FY.upm {v : Mem} {g : Nat → Int32} : FY v (upm v 1 g) := fun i h1 => upm_ne _ _ h1
theorem act_add {u v : Mem} (h : DS u v) (p1 p2 p3 p4 p5 : Int32) : Act u v (X0_add u 0 p1 p2 p3 p4 p5) (X9_add v p1 p2 p3 p4 p5) := by
  unfold X0_add X9_add
  rcases own_cases p1 with ⟨e1, e2⟩ | ⟨o, ho, rfl, e1, e2⟩
  · rw [e1, e2]; exact Act.bad rfl rfl
  rw [e1, e2, ob_some, if_neg bt_t, ob_some, if_neg bt_t]
  have hR := h.rr ho
  have hV := h.val ho
  rcases there_cases (x := nI o) rfl (by omega) hR p2 with ⟨t1, t2⟩ | ⟨p, hp, rfl, hpp, t1, t2⟩
  · rw [t2, ob_some, if_pos bt_f]
    refine Act.bad ?_ rfl
    rcases word_cases p4 with ⟨w1, -⟩ | ⟨n, -, -, w1, -⟩
    · rw [w1]; rfl
    rcases word_cases p5 with ⟨w2, -⟩ | ⟨n, -, -, w2, -⟩
    · rw [w1, w2]; rfl
    rw [w1, w2, ob_some, if_neg bt_t, ob_some, if_neg bt_t, outl_ok u ho, ob_some, t1]; rfl
  rw [t2, ob_some, if_neg bt_t, rKids rfl (by omega) hR (i_m9 (by omega)), ob_some]
  have hc16 : cnt (fun s => chF (u (25 + o)) s (nI p)) 16 ≤ 16 := cnt_le _ _
  rcases in_cases p3 (n := cnt (fun s => chF (u (25 + o)) s (nI p)) 16) (by omega) with ⟨i1, i2⟩ | ⟨k, hk, rfl, i2⟩
  · rw [i2, ob_some, if_pos bt_f]
    refine Act.bad ?_ rfl
    rcases word_cases p4 with ⟨w1, -⟩ | ⟨n, -, -, w1, -⟩
    · rw [w1]; rfl
    rcases word_cases p5 with ⟨w2, -⟩ | ⟨n, -, -, w2, -⟩
    · rw [w1, w2]; rfl
    rw [w1, w2, ob_some, if_neg bt_t, ob_some, if_neg bt_t, outl_ok u ho, ob_some, t1, ob_some, if_neg bt_t, childCount_ok]
    by_cases i3 : p3 < 0
    · rw [if_pos i3]
    · rw [if_neg i3, ob_some, if_neg (i1.resolve_left i3)]
  rw [i2, ob_some, if_neg bt_t]
  rcases word_cases p4 with ⟨w1, w2⟩ | ⟨n, hn, rfl, w1, w2⟩
  · rw [w1, w2]; exact Act.bad rfl rfl
  rcases word_cases p5 with ⟨w3, w4⟩ | ⟨t, ht, rfl, w3, w4⟩
  · rw [w1, w2, w3, w4]; exact Act.bad rfl rfl
  obtain ⟨s, s1, s2, s3, s4, s5⟩ := h.fr
  rw [w1, w2, w3, w4, ob_some, if_neg bt_t, ob_some, if_neg bt_t, ob_some, if_neg bt_t, ob_some, if_neg bt_t, outl_ok u ho, ob_some, t1, ob_some, if_neg bt_t, if_neg (i_nn (by omega)), childCount_ok, ob_some, if_pos (by rw [c_le (by omega) (by omega)]; exact hk), show (257 : Int32) = nI 257 from rfl, rd_ok (by decide) (by decide), ob_some, s4, show u (50 + 0) 4 = nI s from s3]
  by_cases hs : s < 16
  · rw [if_pos (by rw [ntl_16 (by omega)]; exact hs), if_neg (by rw [neq_16 (by omega)]; omega), ob_some, nar_1, stI_ok (by decide) (by decide), ob_some, hang_ok rfl (by omega) rfl hs, ob_some]
    unfold stF
    rw [ob_some]
    have n0 : (50 : Nat) + 0 ≠ 25 + o := by omega
    have c1 : upf u (50 + 0) 4 (nI (s + 1)) (25 + o) = u (25 + o) := by unfold upf; rw [upm_ne _ _ (Ne.symm n0)]
    unfold stO
    rw [c1, attach_ok hs]
    simp only [ob_some, upm_same, show (2 : Int32) = nI 2 from rfl, show (3 : Int32) = nI 3 from rfl, put_ok hs (show (2 : Nat) < 5 by decide), put_ok hs (show (3 : Nat) < 5 by decide), upm_upm, nml_64, nar_32, nar_48, i_add]
    rw [stI_ok (by omega) (by decide), ob_some, stI_ok (by omega) (by decide), ob_some]
    simp only [upm_same, upm_upm]
    rw [show 16 * 2 + s = 32 + s by omega, show 16 * 3 + s = 48 + s by omega]
    have hn0 : hF (u (25 + o)) s = false := s5 o s ho (Nat.le_refl s) hs
    refine ⟨nI s, _, _, rfl, rfl, Or.inr ⟨⟨s, by omega, rfl⟩, ?_, ?_, FY.upm⟩⟩
    · have hRR : RR (adF (u (25 + o)) s (nI p) (nI k) (nI n) (nI t)) (upd (upd (haG (upd (v 1) 257 (nI (s + 1))) (64 * o) s (nI p) (nI k)) (64 * o + 32 + s) (nI n)) (64 * o + 48 + s) (nI t)) (64 * o) :=
        rr_add (rr_keep hR (fun i h1 h2 => upd_n _ _ (by omega))) hs (i_m9 (by omega))
      have hgo : ∀ i, (i < 64 * o ∨ 64 * o + 64 ≤ i) → upd (upd (haG (upd (v 1) 257 (nI (s + 1))) (64 * o) s (nI p) (nI k)) (64 * o + 32 + s) (nI n)) (64 * o + 48 + s) (nI t) i = upd (v 1) 257 (nI (s + 1)) i := by
        intro i hi
        rw [upd_n _ _ (by omega), upd_n _ _ (by omega), ha_out hs (by omega)]
      refine DS.mk (fun x hx => ?_) (fun x hx => ?_) ?_ ?_ ?_ ⟨s + 1, by omega, by omega, ?_, fun x y hx h7 h8 => ?_⟩
      · rw [upm_same]
        by_cases hxo : x = o
        · rw [hxo, upm_same]; exact hRR
        · rw [upm_ne _ _ (by omega)]
          unfold upf
          rw [upm_ne _ _ (by omega)]
          exact rr_keep (h.rr hx) (fun i h1 h2 => by rw [hgo i (by omega), upd_n _ _ (by omega)])
      · by_cases hxo : x = o
        · rw [hxo, upm_same]
          exact Val_add hV (by omega) hs hn0 hp hpp hk hn ht
        · rw [upm_ne _ _ (by omega)]
          unfold upf
          rw [upm_ne _ _ (by omega)]
          exact h.val hx
      · rw [upm_ne _ _ (by omega), upm_same, hgo 256 (by omega), upd_n _ _ (by decide)]
        unfold upf
        rw [upm_same, upd_n _ _ (by decide)]
        exact h.1.2.1
      · rw [upm_ne _ _ (by omega), upm_same, hgo 257 (by omega), upd_s]
        unfold upf
        rw [upm_same, upd_s]
      · rw [upm_ne _ _ (by omega)]
        unfold upf
        rw [upm_same, upd_n _ _ (by decide)]
        exact h.2.2.1
      · rw [upm_ne _ _ (by omega)]
        unfold upf
        rw [upm_same, upd_s]
      · by_cases hxo : x = o
        · rw [hxo, upm_same]
          have := at_h (f := u (25 + o)) (p := nI p) (q := nI k) hs h8
          unfold hF at this ⊢
          rw [upd_n _ _ (by omega), upd_n _ _ (by omega), this]
          have e3 := s5 o y ho (by omega) h8
          unfold hF at e3
          rw [e3]
          simp
          omega
        · rw [upm_ne _ _ (by omega)]
          unfold upf
          rw [upm_ne _ _ (by omega)]
          exact s5 x y hx (by omega) h8
    · intro i h1 h2 h3 h4
      rw [upm_ne _ _ (by omega)]
      unfold upf
      rw [upm_ne _ _ (by omega)]
  · have hs16 : s = 16 := by omega
    subst hs16
    rw [if_neg (by decide), if_pos (by decide)]
    exact ⟨-4, u, v, rfl, rfl, Or.inl ⟨Or.inr (Or.inr rfl), rfl, rfl⟩⟩
