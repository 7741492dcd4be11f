/-! ===== PHASE B: the walk, on both sides ===== -/
def itF (f : Nat → Int32) : Nat → Int32
  | 0 => 0
  | i + 1 => (X4_following f (itF f i)).getD (-1)
def WI (f : Nat → Int32) (V L : List Nat) : Prop := (V ++ L).Nodup ∧ (∀ y, y ∈ V ++ L → y < 16 ∧ hF f y = true) ∧ (∀ y, y ∈ V ++ L → y ≠ 0 → PF f y ∈ V) ∧ (∀ y, y ∈ V → ∀ s, s < 16 → chF f s (nI y) = true → s ∈ V ++ L) ∧ 0 ∈ V ++ L ∧ (L = [] ∨ ∃ x, L = x :: fut f x) ∧ (∀ i x, V[i]? = some x → itF f i = nI x) ∧ itF f V.length = hd L
theorem WI.len {f : Nat → Int32} {V L : List Nat} (h : WI f V L) : V.length + L.length ≤ 16 := by
  have := nd_cnt (n := 16) (V ++ L) h.1 (fun t ht => (h.2.1 t ht).1)
  have h2 := cnt_le (fun t => decide (t ∈ V ++ L)) 16
  rw [this, List.length_append] at h2
  exact h2
theorem mem_kd {f : Nat → Int32} {x y : Nat} : ∀ (n k : Nat), y ∈ kd f x k n ↔ ∃ j, k ≤ j ∧ j < k + n ∧ y = kidN f x j
  | 0, k => by
    constructor
    · intro h; cases h
    · rintro ⟨j, a, b, -⟩; omega
  | n + 1, k => by
    show y ∈ kidN f x k :: kd f x (k + 1) n ↔ _
    rw [List.mem_cons, mem_kd n (k + 1)]
    constructor
    · rintro (h | ⟨j, a, b, c⟩)
      · exact ⟨k, by omega, by omega, h⟩
      · exact ⟨j, by omega, by omega, c⟩
    · rintro ⟨j, a, b, c⟩
      by_cases e : j = k
      · left; rw [c, e]
      · right; exact ⟨j, by omega, by omega, c⟩
theorem mem_kids {f : Nat → Int32} {x y : Nat} : y ∈ kids f x ↔ ∃ j, j < kc f x ∧ y = kidN f x j := by
  unfold kids kfr
  rw [mem_kd]
  constructor
  · rintro ⟨j, -, b, c⟩; exact ⟨j, by omega, c⟩
  · rintro ⟨j, b, c⟩; exact ⟨j, by omega, by omega, c⟩
theorem kd_nodup {f : Nat → Int32} (hV : Val f) {x : Nat} (hx : x < 16) : ∀ (n k : Nat), k + n ≤ kc f x → (kd f x k n).Nodup
  | 0, k, _ => List.nodup_nil
  | n + 1, k, h => by
    show (kidN f x k :: kd f x (k + 1) n).Nodup
    rw [List.nodup_cons, mem_kd]
    refine ⟨?_, kd_nodup hV hx n (k + 1) (by omega)⟩
    rintro ⟨j, a, b, c⟩
    have e1 := (kid_facts hV hx (k := k) (by omega)).2.2.2.2
    have e2 := (kid_facts hV hx (k := j) (by omega)).2.2.2.2
    rw [c, e2] at e1
    omega
theorem kd_len {f : Nat → Int32} {x : Nat} : ∀ (n k : Nat), (kd f x k n).length = n
  | 0, k => rfl
  | n + 1, k => by
    show (kidN f x k :: kd f x (k + 1) n).length = n + 1
    rw [List.length_cons, kd_len n (k + 1)]
theorem kfr_len {f : Nat → Int32} {x k : Nat} : (kfr f x k).length = kc f x - k := kd_len _ _
theorem WI.step {f : Nat → Int32} (hV : Val f) {V : List Nat} {x : Nat} (h : WI f V (x :: fut f x)) : WI f (V ++ [x]) (kids f x ++ fut f x) := by
  obtain ⟨a1, a2, a3, a4, a5, -, a7, a8⟩ := h
  obtain ⟨hx, hh⟩ := a2 x (by simp)
  obtain ⟨n1, n2, n3⟩ := List.nodup_append.mp a1
  obtain ⟨n4, n5⟩ := List.nodup_cons.mp n2
  have hxV : ¬ x ∈ V := fun z => n3 x z x (by simp) rfl
  have kn : ∀ y, y ∈ kids f x → 0 < y ∧ y < 16 ∧ hF f y = true ∧ PF f y = x ∧ ¬ y ∈ V ++ x :: fut f x := by
    intro y hy
    obtain ⟨j, hj, ej⟩ := mem_kids.mp hy
    obtain ⟨b1, b2, b3, b4, -⟩ := kid_facts hV hx hj
    rw [← ej] at b1 b2 b3 b4
    refine ⟨b1, b2, b3, b4, fun z => ?_⟩
    have := a3 _ z (by omega)
    rw [b4] at this
    exact hxV this
  have eq : (V ++ [x]) ++ (kids f x ++ fut f x) = V ++ (x :: (kids f x ++ fut f x)) := by simp
  have mm : ∀ y, y ∈ (V ++ [x]) ++ (kids f x ++ fut f x) ↔ (y ∈ V ++ x :: fut f x) ∨ y ∈ kids f x := by
    intro y
    simp only [List.mem_append, List.mem_cons, List.not_mem_nil, or_false]
    constructor
    · rintro ((h | h) | (h | h))
      · exact Or.inl (Or.inl h)
      · exact Or.inl (Or.inr (Or.inl h))
      · exact Or.inr h
      · exact Or.inl (Or.inr (Or.inr h))
    · rintro ((h | (h | h)) | h)
      · exact Or.inl (Or.inl h)
      · exact Or.inl (Or.inr h)
      · exact Or.inr (Or.inr h)
      · exact Or.inr (Or.inl h)
  obtain ⟨f1, f2⟩ := fol_ok hV hx hh
  refine ⟨?_, ?_, ?_, ?_, ?_, ?_, ?_, ?_⟩
  · rw [eq, List.nodup_append]
    refine ⟨n1, ?_, ?_⟩
    · rw [List.nodup_cons]
      refine ⟨?_, ?_⟩
      · intro z
        rcases List.mem_append.mp z with z | z
        · exact (kn x z).2.2.2.2 (by simp)
        · exact n4 z
      · rw [List.nodup_append]
        refine ⟨kd_nodup hV hx _ _ (by omega), n5, fun a ha b hb e => ?_⟩
        subst e
        exact (kn a ha).2.2.2.2 (by simp [hb])
    · intro a ha b hb e
      subst e
      rcases List.mem_cons.mp hb with z | z
      · exact hxV (by rw [← z]; exact ha)
      · rcases List.mem_append.mp z with z | z
        · exact (kn a z).2.2.2.2 (by simp [ha])
        · exact n3 a ha a (by simp [z]) rfl
  · intro y hy
    rcases (mm y).mp hy with z | z
    · exact a2 y z
    · exact ⟨(kn y z).2.1, (kn y z).2.2.1⟩
  · intro y hy y0
    rcases (mm y).mp hy with z | z
    · exact List.mem_append_left _ (a3 y z y0)
    · rw [(kn y z).2.2.2.1]; simp
  · intro y hy s hs hc
    rcases List.mem_append.mp hy with z | z
    · exact (mm s).mpr (Or.inl (a4 y z s hs hc))
    · have : y = x := by simpa using z
      subst this
      refine (mm s).mpr (Or.inr (mem_kids.mpr ?_))
      have hP := hV.2.2.2.1 y hx
      obtain ⟨q, q1, q2⟩ := hP.1 s hs hc
      exact ⟨q, q1, (kidN_un hP hs hc q2 q1).symm⟩
  · exact (mm 0).mpr (Or.inl a5)
  · rcases f2 with z | ⟨y, -, -, -, z⟩
    · exact Or.inl z
    · exact Or.inr ⟨y, z⟩
  · intro i y hy
    rw [List.getElem?_append] at hy
    by_cases c : i < V.length
    · rw [if_pos c] at hy; exact a7 i y hy
    · rw [if_neg c] at hy
      have : i = V.length := by
        have := (List.getElem?_eq_some_iff.mp hy).1
        simp at this
        omega
      subst this
      rw [a8]
      simp at hy
      rw [← hy]; rfl
  · rw [List.length_append]
    show itF f (V.length + 1) = _
    show (X4_following f (itF f V.length)).getD (-1) = _
    rw [a8]
    show (X4_following f (nI x)).getD (-1) = _
    rw [f1]; rfl
theorem WI.all {f : Nat → Int32} (hV : Val f) {V : List Nat} (h : WI f V []) : V.length = cnt (hF f) 16 := by
  obtain ⟨a1, a2, a3, a4, a5, -, -, -⟩ := h
  rw [List.append_nil] at a1 a2 a3 a4 a5
  have hall : ∀ i t, t < 16 → hF f t = true → up (PF f) i t = 0 → t ∈ V := by
    intro i
    induction i with
    | zero =>
      intro t ht hh h0
      have : t = 0 := h0
      rw [this]; exact a5
    | succ i ih =>
      intro t ht hh h0
      by_cases e : t = 0
      · rw [e]; exact a5
      · obtain ⟨p1, p2, p3⟩ := hV.1.par (Nat.pos_of_ne_zero e) ht hh
        have := ih (PF f t) p2 p3 h0
        exact a4 _ this t ht (hV.pl (Nat.pos_of_ne_zero e) ht hh).1
  rw [← nd_cnt (n := 16) V a1 (fun t ht => (a2 t ht).1)]
  refine cnt_congr (fun t ht => ?_)
  cases hh : hF f t
  · have : ¬ t ∈ V := fun z => by rw [(a2 t z).2] at hh; cases hh
    simp [this]
  · obtain ⟨i, hi⟩ := hV.2.1 t ht hh
    simp [hall i t ht hh hi]
theorem WI.tail {f : Nat → Int32} (hV : Val f) {V : List Nat} (h : WI f V []) : ∀ d, itF f (V.length + d) = -1
  | 0 => h.2.2.2.2.2.2.2
  | d + 1 => by
    show (X4_following f (itF f (V.length + d))).getD (-1) = -1
    rw [WI.tail hV h d, fol_none hV]; rfl
theorem WI.fol {f : Nat → Int32} (hV : Val f) {V : List Nat} (h : WI f V []) (k : Nat) : X4_following f (itF f k) = some (itF f (k + 1)) := by
  have key : ∃ y, X4_following f (itF f k) = some y := by
    by_cases c : k < V.length
    · have hk : V[k]? = some V[k] := List.getElem?_eq_getElem c
      have hm : V[k] ∈ V ++ [] := by simp
      rw [h.2.2.2.2.2.2.1 k _ hk]
      obtain ⟨a, b⟩ := h.2.1 _ hm
      exact ⟨_, (fol_ok hV a b).1⟩
    · have := h.tail hV (k - V.length)
      rw [show V.length + (k - V.length) = k by omega] at this
      rw [this]
      exact ⟨_, fol_none hV⟩
  obtain ⟨y, hy⟩ := key
  rw [hy]
  show some y = some ((X4_following f (itF f k)).getD (-1))
  rw [hy]; rfl
/-! the reference's rows -/
section WR
variable {f : Nat → Int32} {o : Nat}
theorem push_one (hV : Val f) (ho : o < 4) {w : Mem} (hR : RR f (w 1) (64 * o)) {x j left : Nat} (hx : x < 16) (hj : j < kc f x) (hl : left < 16) : X9_walkAll_L56 (nI o) (nI x) (nI j) fu (nI left) 1 w = some (nI (left + 1), upm w 12 (upd (w 12) left (nI (kidN f x j)))) := by
  obtain ⟨k1, k2, k3, k4, k5⟩ := kid_facts hV hx hj
  obtain ⟨-, kc1, kp1⟩ := kidN_ok (hV.2.2.2.1 x hx) hj
  have hkc := kc_le f x
  generalize hs0 : kidN f x j = s0 at *
  obtain ⟨r, h1, h2⟩ := lp_fu (fun n (s : Int32 × Mem) z => X9_walkAll_L56 (nI o) (nI x) (nI j) n s.1 z s.2) 1 16 (fun k s => 0 < k ∧ ((k ≤ s0 ∧ s = (nI left, w)) ∨ (s0 < k ∧ s = (nI (left + 1), upm w 12 (upd (w 12) left (nI s0)))))) (fun r => r = (nI (left + 1), upm w 12 (upd (w 12) left (nI s0)))) (nI left, w) (by decide) (by decide) ⟨by decide, Or.inl ⟨by omega, rfl⟩⟩
    (fun n s h => ⟨s, by rw [X9_walkAll_L56, if_pos (by decide)], by
      rcases h.2 with ⟨z, -⟩ | ⟨-, z⟩
      · omega
      · exact z⟩)
    (fun n s k hk ⟨k0, hs⟩ => by
      left
      have h1w : s.2 1 = w 1 := by
        rcases hs with ⟨-, z⟩ | ⟨-, z⟩
        · rw [z]
        · rw [z]
          exact upm_ne w (upd (w 12) left (nI s0)) (show 1 ≠ 12 by decide)
      have cnd := rp_cond (p := nI x) (rr_rp hR hk) k0 (i_m9 (by omega))
      rw [X9_walkAll_L56, if_neg (by rw [nle_16 (by omega)]; omega), rPar rfl rfl ho hk, ob_some, rPla rfl rfl ho hk, ob_some, h1w, nar_1]
      by_cases e : k = s0
      · subst e
        rcases hs with ⟨-, z⟩ | ⟨z, -⟩
        · subst z
          dsimp only
          obtain ⟨-, -, -, a1, -⟩ := rr_yes hR hk k3
          rw [if_pos (cnd.mp kc1), if_pos (by rw [← a1]; exact kp1), stI_ok hl (by decide), ob_some, nar_1]
          exact ⟨_, ⟨by omega, Or.inr ⟨by omega, rfl⟩⟩, rfl⟩
        · omega
      · have same : ∀ F : Option (Int32 × Mem), (if w 1 (64 * o + k) = nI x then if w 1 (64 * o + 16 + k) = nI j then F else X9_walkAll_L56 (nI o) (nI x) (nI j) n s.1 (nI (k + 1)) s.2 else X9_walkAll_L56 (nI o) (nI x) (nI j) n s.1 (nI (k + 1)) s.2) = X9_walkAll_L56 (nI o) (nI x) (nI j) n s.1 (nI (k + 1)) s.2 := by
          intro F
          by_cases c1 : w 1 (64 * o + k) = nI x
          · rw [if_pos c1]
            by_cases c2 : w 1 (64 * o + 16 + k) = nI j
            · exfalso
              have hc := cnd.mpr c1
              obtain ⟨-, -, -, a1, -⟩ := rr_yes hR hk (ch_h hc).2.1
              have := kidN_un (hV.2.2.2.1 x hx) hk hc (by rw [a1]; exact c2) hj
              omega
            · rw [if_neg c2]
          · rw [if_neg c1]
        rw [same]
        refine ⟨s, ⟨by omega, ?_⟩, rfl⟩
        rcases hs with ⟨z1, z2⟩ | ⟨z1, z2⟩
        · exact Or.inl ⟨by omega, z2⟩
        · exact Or.inr ⟨by omega, z2⟩)
  rw [show X9_walkAll_L56 (nI o) (nI x) (nI j) fu (nI left) 1 w = some r from h1, h2]
theorem push_all (hV : Val f) (ho : o < 4) {x : Nat} (hx : x < 16) {L' : List Nat} (hl : kc f x + L'.length ≤ 16) : ∀ (j n : Nat) (w : Mem), j ≤ kc f x → j < n → RR f (w 1) (64 * o) → (∀ i y, (kfr f x j ++ L').reverse[i]? = some y → w 12 i = nI y) → ∃ w', X9_walkAll_L48 (nI o) (nI x) n (nI (kc f x - j + L'.length)) (nI j - 1) w = some (nI (kc f x + L'.length), w') ∧ (∀ i, i ≠ 12 → w' i = w i) ∧ ∀ i y, (kids f x ++ L').reverse[i]? = some y → w' 12 i = nI y := by
  intro j
  induction j with
  | zero =>
    intro n w h1 h2 hR hw
    obtain ⟨n, rfl⟩ : ∃ n', n = n' + 1 := ⟨n - 1, by omega⟩
    exact ⟨w, by rw [X9_walkAll_L48, if_pos (by decide), Nat.sub_zero], fun _ _ => rfl, hw⟩
  | succ j ih =>
    intro n w h1 h2 hR hw
    obtain ⟨n, rfl⟩ : ∃ n', n = n' + 1 := ⟨n - 1, by omega⟩
    have e1 : nI (j + 1) - 1 = nI j := i_sub (a := j + 1) (b := 1) (by omega)
    have hkc := kc_le f x
    have e2 : nI j + (-1) = nI j - 1 := (Int32.sub_eq_add_neg _ _).symm
    have hlen : (kfr f x (j + 1) ++ L').length = kc f x - (j + 1) + L'.length := by rw [List.length_append, kfr_len]
    obtain ⟨w', g1, g2, g3⟩ := ih n (upm w 12 (upd (w 12) (kc f x - (j + 1) + L'.length) (nI (kidN f x j)))) (by omega) (by omega) (by rw [upm_ne _ _ (by decide)]; exact hR) (fun i y hy => by
      rw [upm_same]
      rw [kids_drop (by omega), List.cons_append, List.reverse_cons, List.getElem?_append, List.length_reverse, hlen] at hy
      by_cases c : i < kc f x - (j + 1) + L'.length
      · rw [if_pos c] at hy
        rw [upd_n _ _ (by omega)]; exact hw i y hy
      · rw [if_neg c] at hy
        have : i - (kc f x - (j + 1) + L'.length) = 0 := by
          have := (List.getElem?_eq_some_iff.mp hy).1
          simp at this
          omega
        rw [this] at hy
        have e : i = kc f x - (j + 1) + L'.length := by omega
        rw [e, upd_s]
        simp at hy
        rw [hy])
    refine ⟨w', ?_, fun i hi => by rw [g2 i hi, upm_ne _ _ hi], g3⟩
    rw [X9_walkAll_L48, e1, if_neg (i_nn (by omega)), push_one hV ho hR hx (by omega) (by omega), ob_2, e2]
    rw [show kc f x - (j + 1) + L'.length + 1 = kc f x - j + L'.length by omega]
    exact g1
def W2 (v0 v : Mem) : Prop := ∀ i, i ≠ 11 → i ≠ 12 → v i = v0 i
theorem walk_L11 (hV : Val f) (ho : o < 4) {v0 : Mem} (hR : RR f (v0 1) (64 * o)) : ∀ (d : Nat) (V L : List Nat) (v : Mem) (n : Nat), V.length + d = 17 → d < n → WI f V L → W2 v0 v → (∀ i x, V[i]? = some x → v 11 i = nI x) → (∀ i x, L.reverse[i]? = some x → v 12 i = nI x) → ∃ V' v', X9_walkAll_L11 (nI o) n (nI V.length) (nI L.length) v = some (nI V'.length, v') ∧ WI f V' [] ∧ W2 v0 v' ∧ ∀ i x, V'[i]? = some x → v' 11 i = nI x := by
  intro d
  induction d with
  | zero =>
    intro V L v n h1 h2 hW
    have := hW.len
    omega
  | succ d ih =>
    intro V L v n h1 h2 hW hv h11 h12
    obtain ⟨n, rfl⟩ : ∃ n', n = n' + 1 := ⟨n - 1, by omega⟩
    have hlen := hW.len
    rcases hW.2.2.2.2.2.1 with rfl | ⟨x, rfl⟩
    · exact ⟨V, v, by rw [X9_walkAll_L11, if_pos (by decide)], hW, hv, h11⟩
    · obtain ⟨hx, hh⟩ := hW.2.1 x (by simp)
      have hll : (x :: fut f x).length = (fut f x).length + 1 := rfl
      rw [hll] at hlen ⊢
      have hW2 := hW.step hV
      have hlen2 := hW2.len
      rw [List.length_append, List.length_append, show (kids f x).length = kc f x from kfr_len] at hlen2
      have top : v 12 (fut f x).length = nI x := h12 _ _ (by
        rw [List.reverse_cons, List.getElem?_append, if_neg (by simp)]; simp)
      have hw1 : RR f ((upm v 11 (upd (v 11) V.length (nI x))) 1) (64 * o) := by
        rw [upm_ne _ _ (by decide), hv 1 (by decide) (by decide)]; exact hR
      have hend : kfr f x (kc f x) = [] := kids_end (Nat.le_refl _)
      obtain ⟨w', g1, g2, g3⟩ := push_all hV ho hx (L' := fut f x) (by simp at hlen2; omega) (kc f x) fu (upm v 11 (upd (v 11) V.length (nI x))) (Nat.le_refl _) (by have := kc_le f x; rw [fu_big]; omega) hw1 (fun i y hy => by
        rw [hend, List.nil_append] at hy
        rw [upm_ne _ _ (by decide)]
        refine h12 i y ?_
        rw [List.reverse_cons, List.getElem?_append, if_pos (List.getElem?_eq_some_iff.mp hy).1]
        exact hy)
      rw [Nat.sub_self, Nat.zero_add] at g1
      have hkc := kc_le f x
      obtain ⟨V', v', r1, r2, r3, r4⟩ := ih (V ++ [x]) (kids f x ++ fut f x) w' n (by simp; omega) (by omega) hW2 (fun i a b => by
          rw [g2 i b, upm_ne _ _ a]; exact hv i a b) (fun i y hy => by
          rw [g2 11 (by decide), upm_same]
          rw [List.getElem?_append] at hy
          by_cases c : i < V.length
          · rw [if_pos c] at hy
            rw [upd_n _ _ (by omega)]; exact h11 i y hy
          · rw [if_neg c] at hy
            have e0 : i - V.length = 0 := by
              have := (List.getElem?_eq_some_iff.mp hy).1
              simp at this
              omega
            rw [e0] at hy
            have e : i = V.length := by omega
            rw [e, upd_s]
            simp at hy
            rw [hy]) g3
      refine ⟨V', v', ?_, r2, r3, r4⟩
      rw [X9_walkAll_L11, if_neg (by rw [nel_0 (by omega)]; omega), nm1, rd_ok (by omega) (by decide), ob_some, top, stI_ok (by omega) (by decide), ob_some, rKids rfl ho hw1 (i_m9 (by omega)), ob_some]
      rw [show cnt (fun s => chF f s (nI x)) 16 = kc f x from rfl, g1, ob_2, nar_1]
      rw [List.length_append, List.length_append, show (kids f x).length = kc f x from kfr_len] at r1
      exact r1
theorem walkAll_ok (hV : Val f) (ho : o < 4) {v : Mem} (hR : RR f (v 1) (64 * o)) : ∃ V v', X9_walkAll v (nI o) = some (nI V.length, v') ∧ WI f V [] ∧ W2 v v' ∧ ∀ i x, V[i]? = some x → v' 11 i = nI x := by
  have hW : WI f [] [0] := by
    refine ⟨by simp, fun y hy => ?_, fun y hy h0 => ?_, fun y hy => by simp at hy, by simp, Or.inr ⟨0, ?_⟩, fun i x hx => by simp at hx, rfl⟩
    · have : y = 0 := by simpa using hy
      rw [this]
      exact ⟨by decide, by rw [hh_of]; exact hV.1.1⟩
    · exact absurd (by simpa using hy) h0
    · rw [show fut f 0 = [] from fut_0 f 16]
  obtain ⟨V, v', a1, a2, a3, a4⟩ := walk_L11 hV ho hR 17 [] [0] (upm v 12 (upd (v 12) 0 0)) fu rfl (by decide) hW (fun i a b => upm_ne _ _ b) (fun i x hx => by simp at hx) (fun i x hx => by
    have e : i = 0 := by
      have := (List.getElem?_eq_some_iff.mp hx).1
      simp at this
      exact this
    subst e
    have : x = 0 := by
      have h2 : ([0] : List Nat).reverse[0]? = some 0 := rfl
      rw [h2] at hx
      exact (Option.some.inj hx).symm
    rw [this, upm_same, upd_s]; rfl)
  refine ⟨V, v', ?_, a2, a3, a4⟩
  unfold X9_walkAll
  rw [show stI 16 v 12 0 0 = some (upm v 12 (upd (v 12) 0 0)) from stI_ok (i := 0) (by decide) (by decide), ob_some, show X9_walkAll_L11 (nI o) fu 0 1 (upm v 12 (upd (v 12) 0 0)) = some (nI V.length, v') from a1]; rfl
end WR
theorem Rel.viaW {u v v' : Mem} (h : Rel u v) (h2 : W2 v v') : Rel u v' :=
  h.frame (fun i hi => rfl) rfl rfl (fun i _ => by rw [h2 1 (by decide) (by decide)]) (fun i hi => h2 i (by omega) (by omega)) (by rw [h2 0 (by decide) (by decide)]) (by rw [h2 0 (by decide) (by decide)])
theorem st_walk {u v : Mem} (h : Rel u v) (a b : Int32) : St (X8_walk u a b) (X9_walk v a b) := by
  unfold X8_walk X9_walk
  rcases ask_cases h a with ⟨c1, c2⟩ | ⟨o, u', v', o4, rfl, c1, c2, c3, c4, c5, c6, c7⟩
  · rw [c1, ob_some, if_pos bt_f, c2, ob_2, if_pos bt_f]
    exact st_bad h (Or.inl rfl)
  · obtain ⟨hR, hV⟩ := row_any c4 o4 c6
    rw [c1, ob_some, if_neg bt_t, c3, ob_2, if_neg bt_t]
    by_cases z : (0 : Int32) ≤ b
    · rw [if_pos z, if_pos z, c2, ob_2]
      obtain ⟨V, v2, e1, e2, e3, e4⟩ := walkAll_ok hV o4 hR
      have hlen := e2.len
      rw [List.length_nil, Nat.add_zero] at hlen
      have hrel : Rel u' v2 := c4.viaW e3
      rw [e1, ob_2]
      rcases i_cases b (n := 16) (by decide) with q | q | ⟨k, hk, rfl⟩
      · exact absurd z (Int32.not_le.mpr q)
      · have q1 : nI V.length ≤ b := Int32.le_trans (show nI V.length ≤ nI 16 by rw [c_le (by omega) (by decide)]; exact hlen) q
        rw [if_pos (show (16 : Int32) ≤ b from q), ob_some, if_pos q1]
        have main : ∀ c j n, j + c = 16 → c < n → X8_walk_L40 b (rowO o) u' n (-1) (nI j) = some (-1) := by
          intro c
          induction c with
          | zero =>
            intro j n h1 h2
            obtain ⟨n, rfl⟩ : ∃ n', n = n' + 1 := ⟨n - 1, by omega⟩
            have : j = 16 := by omega
            subst this
            rw [X8_walk_L40]
            by_cases y : b ≤ nI 16
            · rw [if_pos y]
            · rw [if_neg y, if_pos (by decide)]
          | succ c ih =>
            intro j n h1 h2
            obtain ⟨n, rfl⟩ : ∃ n', n = n' + 1 := ⟨n - 1, by omega⟩
            rw [X8_walk_L40]
            by_cases y : b ≤ nI j
            · rw [if_pos y]
            · rw [if_neg y, if_neg (by rw [nle_16 (by omega)]; omega), fol_none hV, ob_some, nar_1]
              exact ih (j + 1) n (by omega) (by omega)
        rw [show X8_walk_L40 b (rowO o) u' fu (-1) 0 = some (-1) from main 16 0 fu (by decide) (by decide), ob_some]
        exact ⟨-1, u', v2, rfl, rfl, hrel⟩
      · rw [if_neg (by rw [nle_16 (by omega)]; omega), ob_some]
        have main : ∀ c j n, j + c = k → c < n → X8_walk_L40 (nI k) (rowO o) u' n (itF (u' (25 + rowO o)) j) (nI j) = some (itF (u' (25 + rowO o)) k) := by
          intro c
          induction c with
          | zero =>
            intro j n h1 h2
            obtain ⟨n, rfl⟩ : ∃ n', n = n' + 1 := ⟨n - 1, by omega⟩
            have : j = k := by omega
            subst this
            rw [X8_walk_L40, if_pos (Int32.le_refl _)]
          | succ c ih =>
            intro j n h1 h2
            obtain ⟨n, rfl⟩ : ∃ n', n = n' + 1 := ⟨n - 1, by omega⟩
            rw [X8_walk_L40, if_neg (by rw [c_le (by omega) (by omega)]; omega), if_neg (by rw [nle_16 (by omega)]; omega), e2.fol hV j, ob_some, nar_1]
            exact ih (j + 1) n (by omega) (by omega)
        rw [show X8_walk_L40 (nI k) (rowO o) u' fu 0 0 = some (itF (u' (25 + rowO o)) k) from main k 0 fu (by omega) (by rw [fu_big]; omega), ob_some]
        by_cases y : V.length ≤ k
        · rw [if_pos (by rw [c_le (by omega) (by omega)]; exact y)]
          have := e2.tail hV (k - V.length)
          rw [show V.length + (k - V.length) = k by omega] at this
          rw [this]
          exact ⟨-1, u', v2, rfl, rfl, hrel⟩
        · rw [if_neg (by rw [c_le (by omega) (by omega)]; exact y), rd_ok hk (by decide), ob_some]
          have hk2 : V[k]? = some (V[k]'(by omega)) := List.getElem?_eq_getElem (by omega)
          rw [e4 k _ hk2, e2.2.2.2.2.2.2.1 k _ hk2]
          exact ⟨_, u', v2, rfl, rfl, hrel⟩
    · rw [if_neg z, if_neg z]
      exact st_bad c5 (Or.inl rfl)
