/-! ===== PHASE B: the walk: children in their order, what follows ===== -/
theorem nd_cnt {n : Nat} : ∀ (V : List Nat), V.Nodup → (∀ t, t ∈ V → t < n) → cnt (fun t => decide (t ∈ V)) n = V.length
  | [], _, _ => by
    have : ∀ n, cnt (fun t => decide (t ∈ ([] : List Nat))) n = 0 := by
      intro n
      induction n with
      | zero => rfl
      | succ n ih => simp only [cnt, ih]; simp
    rw [this]; rfl
  | x :: V, h1, h2 => by
    have h1' := List.nodup_cons.mp h1
    have ih := nd_cnt V h1'.2 (fun t ht => h2 t (List.mem_cons_of_mem _ ht))
    rw [cnt_one (p := fun t => decide (t ∈ V)) (s := x) (h2 x List.mem_cons_self) (fun k _ hk => by simp [hk]) (by simp [h1'.1]) (by simp), ih]
    rfl
theorem enum_cnt (q : Nat → Bool) : ∀ n, ∃ e : Nat → Nat, (∀ i, i < cnt q n → e i < n ∧ q (e i) = true) ∧ ∀ i j, i < j → j < cnt q n → e i ≠ e j
  | 0 => ⟨fun _ => 0, fun i hi => by simp [cnt] at hi, fun i j _ hj => by simp [cnt] at hj⟩
  | n + 1 => by
    obtain ⟨e, h1, h2⟩ := enum_cnt q n
    by_cases hq : q n = true
    · have hc : cnt q (n + 1) = cnt q n + 1 := by simp only [cnt, hq]; rfl
      refine ⟨fun i => if i < cnt q n then e i else n, fun i hi => ?_, fun i j hij hj => ?_⟩
      · rw [hc] at hi
        dsimp only
        by_cases c : i < cnt q n
        · rw [if_pos c]
          have := h1 i c
          exact ⟨by omega, this.2⟩
        · rw [if_neg c]; exact ⟨by omega, hq⟩
      · rw [hc] at hj
        dsimp only
        rw [if_pos (show i < cnt q n by omega)]
        by_cases c : j < cnt q n
        · rw [if_pos c]; exact h2 i j hij c
        · rw [if_neg c]
          have := h1 i (by omega)
          omega
    · have hc : cnt q (n + 1) = cnt q n := by simp only [cnt, if_neg hq, Nat.add_zero]
      refine ⟨e, fun i hi => ?_, fun i j hij hj => h2 i j hij (by omega)⟩
      have := h1 i (by omega)
      exact ⟨by omega, this.2⟩
def kc (f : Nat → Int32) (p : Nat) : Nat := cnt (fun s => chF f s (nI p)) 16
theorem kc_le (f : Nat → Int32) (p : Nat) : kc f p ≤ 16 := cnt_le _ _
theorem sk_lt {a k c : Nat} (h1 : a < c) (h2 : a ≠ k) (h3 : k < c) : (if a < k then a else a - 1) < c - 1 := by
  by_cases z : a < k
  · rw [if_pos z]; omega
  · rw [if_neg z]; omega
theorem sk_ne {a b k : Nat} (h1 : a ≠ k) (h2 : b ≠ k) (h3 : a ≠ b) : (if a < k then a else a - 1) ≠ (if b < k then b else b - 1) := by
  by_cases z : a < k
  · rw [if_pos z]
    by_cases y : b < k
    · rw [if_pos y]; omega
    · rw [if_neg y]; omega
  · rw [if_neg z]
    by_cases y : b < k
    · rw [if_pos y]; omega
    · rw [if_neg y]; omega
theorem kid_ex {f : Nat → Int32} {p k : Nat} (h : Pl f (nI p)) (hk : k < kc f p) : ∃ s, s < 16 ∧ chF f s (nI p) = true ∧ f (16 + s) = nI k := by
  apply Classical.byContradiction
  intro hn
  have hn : ∀ s, s < 16 → chF f s (nI p) = true → f (16 + s) ≠ nI k := fun s a b c => hn ⟨s, a, b, c⟩
  obtain ⟨e, e1, e2⟩ := enum_cnt (fun s => chF f s (nI p)) 16
  have hkc := kc_le f p
  have hpl : ∀ i, i < kc f p → ∃ q, q < kc f p ∧ f (16 + e i) = nI q ∧ q ≠ k := by
    intro i hi
    obtain ⟨a, b⟩ := e1 i hi
    obtain ⟨q, q1, q2⟩ := h.1 (e i) a b
    refine ⟨q, q1, q2, fun z => ?_⟩
    rw [z] at q2
    exact hn (e i) a b q2
  have g : ∀ i, i < kc f p → (f (16 + e i)).toNatClampNeg < kc f p ∧ (f (16 + e i)).toNatClampNeg ≠ k ∧ f (16 + e i) = nI (f (16 + e i)).toNatClampNeg := by
    intro i hi
    obtain ⟨q, q1, q2, q3⟩ := hpl i hi
    rw [q2, i_tn (by omega)]
    exact ⟨q1, q3, rfl⟩
  have := pigeon (kc f p - 1) (kc f p) (fun i => if (f (16 + e i)).toNatClampNeg < k then (f (16 + e i)).toNatClampNeg else (f (16 + e i)).toNatClampNeg - 1) (fun i hi => by
      obtain ⟨a, b, -⟩ := g i hi
      exact sk_lt a b hk) (fun i j hij hj => by
      obtain ⟨a, b, c⟩ := g i (by omega)
      obtain ⟨a', b', c'⟩ := g j hj
      have ne : (f (16 + e i)).toNatClampNeg ≠ (f (16 + e j)).toNatClampNeg := by
        intro z
        have e3 : e i = e j := by
          obtain ⟨x1, x2⟩ := e1 i (by show i < kc f p; omega)
          obtain ⟨y1, y2⟩ := e1 j hj
          exact h.2 _ _ x1 y1 x2 y2 (by rw [c, c', z])
        exact e2 i j hij hj e3
      exact sk_ne b b' ne)
  omega
def kidP (f : Nat → Int32) (p k s : Nat) : Bool := chF f s (nI p) && decide (f (16 + s) = nI k)
def fnd (P : Nat → Bool) : Nat → Nat
  | 0 => 0
  | n + 1 => if fnd P n < n then fnd P n else if P n = true then n else n + 1
theorem fnd_spec (P : Nat → Bool) : ∀ n, (fnd P n < n ∧ P (fnd P n) = true) ∨ (fnd P n = n ∧ ∀ j, j < n → P j = false)
  | 0 => Or.inr ⟨rfl, fun j hj => by omega⟩
  | n + 1 => by
    rcases fnd_spec P n with ⟨a, b⟩ | ⟨a, b⟩
    · left
      have : fnd P (n + 1) = fnd P n := by simp only [fnd, if_pos a]
      rw [this]
      exact ⟨by omega, b⟩
    · by_cases hp : P n = true
      · left
        have : fnd P (n + 1) = n := by
          simp only [fnd]
          rw [if_neg (by omega), if_pos hp]
        rw [this]
        exact ⟨by omega, hp⟩
      · right
        have : fnd P (n + 1) = n + 1 := by
          simp only [fnd]
          rw [if_neg (by omega), if_neg hp]
        refine ⟨this, fun j hj => ?_⟩
        by_cases e : j = n
        · rw [e]; cases h : P n
          · rfl
          · exact absurd h hp
        · exact b j (by omega)
def kidN (f : Nat → Int32) (p k : Nat) : Nat := fnd (kidP f p k) 16
theorem kidN_ok {f : Nat → Int32} {p k : Nat} (h : Pl f (nI p)) (hk : k < kc f p) : kidN f p k < 16 ∧ chF f (kidN f p k) (nI p) = true ∧ f (16 + kidN f p k) = nI k := by
  unfold kidN
  rcases fnd_spec (kidP f p k) 16 with ⟨a, b⟩ | ⟨a, b⟩
  · unfold kidP at b
    simp only [Bool.and_eq_true, decide_eq_true_eq] at b
    exact ⟨a, b.1, b.2⟩
  · exfalso
    obtain ⟨s, s1, s2, s3⟩ := kid_ex h hk
    have := b s s1
    unfold kidP at this
    rw [s2, s3] at this
    simp at this
theorem kidN_un {f : Nat → Int32} {p k s : Nat} (h : Pl f (nI p)) (hs : s < 16) (hc : chF f s (nI p) = true) (hp : f (16 + s) = nI k) (hk : k < kc f p) : kidN f p k = s := by
  obtain ⟨a, b, c⟩ := kidN_ok h hk
  exact h.2 _ _ a hs b hc (by rw [c, hp])
theorem childAt_ok {f : Nat → Int32} {p k : Nat} (h : Pl f (nI p)) (hk : k < 100) : X4_childAt f (nI p) (nI k) = some (if k < kc f p then nI (kidN f p k) else -1) := by
  obtain ⟨r, h1, h2⟩ := lp_fu (fun n (_ : Unit) z => X4_childAt_L2 (nI p) (nI k) f n z) 0 16 (fun j _ => ∀ s, s < j → kidP f p k s = false) (fun r => (∃ s, s < 16 ∧ kidP f p k s = true ∧ r = nI s) ∨ ((∀ s, s < 16 → kidP f p k s = false) ∧ r = -1)) () (by decide) (by decide) (fun s hs => by omega)
    (fun n _ h => ⟨-1, by rw [X4_childAt_L2, if_pos (by decide)], Or.inr ⟨h, rfl⟩⟩)
    (fun n _ j hj hJ => by
      have nx : kidP f p k j = false → ∀ s, s < j + 1 → kidP f p k s = false := fun z s hs => by
        by_cases e : s = j
        · rw [e]; exact z
        · exact hJ s (by omega)
      rw [X4_childAt_L2, if_neg (by rw [nle_16 (by omega)]; omega), isChild_ok hj, ob_some, nar_1]
      cases hc : chF f j (nI p)
      · rw [if_pos bt_f]
        left
        exact ⟨(), nx (by unfold kidP; rw [hc]; rfl), rfl⟩
      · rw [if_neg bt_t, trait1' hj, ob_some, trF_here (ch_h hc).2.1]
        by_cases e : f (16 * 1 + j) = nI k
        · rw [if_pos e]
          right
          exact ⟨nI j, rfl, Or.inl ⟨j, hj, by unfold kidP; rw [hc, show f (16 + j) = nI k from e]; simp, rfl⟩⟩
        · rw [if_neg e]
          left
          exact ⟨(), nx (by unfold kidP; rw [hc]; simp; exact e), rfl⟩)
  have hL : X4_childAt f (nI p) (nI k) = some r := h1
  rw [hL]
  rcases h2 with ⟨s, s1, s2, rfl⟩ | ⟨hn, rfl⟩
  · unfold kidP at s2
    simp only [Bool.and_eq_true, decide_eq_true_eq] at s2
    have hlt : k < kc f p := by
      obtain ⟨q, q1, q2⟩ := h.1 s s1 s2.1
      rw [s2.2] at q2
      have hkc := kc_le f p
      have : k = q := i_inj (by omega) (by unfold kc at hkc; omega) q2
      rw [this]; exact q1
    rw [if_pos hlt, kidN_un h s1 s2.1 s2.2 hlt]
  · rw [if_neg]
    intro z
    obtain ⟨s, s1, s2, s3⟩ := kid_ex h z
    have := hn s s1
    unfold kidP at this
    rw [s2, s3] at this
    simp at this
def kd (f : Nat → Int32) (x : Nat) : Nat → Nat → List Nat
  | _, 0 => []
  | k, n + 1 => kidN f x k :: kd f x (k + 1) n
/-- the children from place k on -/
def kfr (f : Nat → Int32) (x k : Nat) : List Nat := kd f x k (kc f x - k)
def kids (f : Nat → Int32) (x : Nat) : List Nat := kfr f x 0
def plN (f : Nat → Int32) (x : Nat) : Nat := (f (16 + x)).toNatClampNeg
def sibs (f : Nat → Int32) (x : Nat) : List Nat := kfr f (PF f x) (plN f x + 1)
def futN (f : Nat → Int32) : Nat → Nat → List Nat
  | 0, _ => []
  | n + 1, x => if x = 0 then [] else sibs f x ++ futN f n (PF f x)
def fut (f : Nat → Int32) (x : Nat) : List Nat := futN f 16 x
theorem fut_0 (f : Nat → Int32) : ∀ n, futN f n 0 = []
  | 0 => rfl
  | n + 1 => by simp [futN]
theorem fut_st (f : Nat → Int32) : ∀ (i n x : Nat), up (PF f) i x = 0 → i ≤ n → futN f (n + 1) x = futN f n x
  | 0, n, x, h, _ => by
    have : x = 0 := h
    subst this
    rw [fut_0, fut_0]
  | i + 1, n, x, h, hn => by
    obtain ⟨n, rfl⟩ : ∃ n', n = n' + 1 := ⟨n - 1, by omega⟩
    by_cases e : x = 0
    · subst e; rw [fut_0, fut_0]
    · have := fut_st f i n (PF f x) h (by omega)
      show (if x = 0 then [] else sibs f x ++ futN f (n + 1) (PF f x)) = (if x = 0 then [] else sibs f x ++ futN f n (PF f x))
      rw [this]
theorem fut_up {f : Nat → Int32} (hV : Val f) {x : Nat} (h0 : 0 < x) (hx : x < 16) (hh : hF f x = true) : fut f x = sibs f x ++ fut f (PF f x) := by
  obtain ⟨i, hi, h1, h2, -⟩ := hV.2.1.first hV.1.clo hx hh
  have hi0 : 0 < i := by
    cases i with
    | zero => have : x = 0 := h1; omega
    | succ i => omega
  obtain ⟨i, rfl⟩ : ∃ i', i = i' + 1 := ⟨i - 1, by omega⟩
  unfold fut
  rw [fut_st f i 15 (PF f x) h1 (by omega)]
  show (if x = 0 then [] else _) = _
  rw [if_neg (by omega)]
theorem Val.plx {f : Nat → Int32} (hV : Val f) {x : Nat} (h0 : 0 < x) (hx : x < 16) (hh : hF f x = true) : f (16 + x) = nI (plN f x) ∧ plN f x < kc f (PF f x) ∧ kidN f (PF f x) (plN f x) = x ∧ PF f x < 16 ∧ hF f (PF f x) = true := by
  obtain ⟨p1, p2, p3⟩ := hV.1.par h0 hx hh
  have hc := (hV.pl h0 hx hh).1
  have hP := hV.2.2.2.1 (PF f x) p2
  obtain ⟨q, q1, q2⟩ := hP.1 x hx hc
  have hkc := kc_le f (PF f x)
  have e : plN f x = q := by unfold plN; rw [q2]; exact i_tn (by unfold kc at hkc; omega)
  rw [e]
  exact ⟨q2, q1, kidN_un hP hx hc q2 q1, p2, p3⟩
theorem kid_facts {f : Nat → Int32} (hV : Val f) {x k : Nat} (hx : x < 16) (hk : k < kc f x) : 0 < kidN f x k ∧ kidN f x k < 16 ∧ hF f (kidN f x k) = true ∧ PF f (kidN f x k) = x ∧ plN f (kidN f x k) = k := by
  obtain ⟨a, b, c⟩ := kidN_ok (hV.2.2.2.1 x hx) hk
  obtain ⟨b1, b2, b3⟩ := ch_h b
  have hkc := kc_le f x
  exact ⟨b1, a, b2, PF_of (by omega) hx b3, by unfold plN; rw [c]; exact i_tn (by omega)⟩
theorem kids_drop {f : Nat → Int32} {x k : Nat} (hk : k < kc f x) : kfr f x k = kidN f x k :: kfr f x (k + 1) := by
  unfold kfr
  rw [show kc f x - k = (kc f x - (k + 1)) + 1 by omega]
  rfl
theorem kids_end {f : Nat → Int32} {x k : Nat} (hk : kc f x ≤ k) : kfr f x k = [] := by
  unfold kfr
  rw [show kc f x - k = 0 by omega]
  rfl
/-- what comes, a child of x from place k on, then what comes behind x -/
theorem kid_fut {f : Nat → Int32} (hV : Val f) {x k : Nat} (hx : x < 16) (hk : k < kc f x) : kfr f x k ++ fut f x = kidN f x k :: fut f (kidN f x k) := by
  obtain ⟨a, b, c, d, e⟩ := kid_facts hV hx hk
  rw [kids_drop hk, fut_up hV a b c]
  unfold sibs
  rw [d, e]; rfl
def hd : List Nat → Int32
  | [] => -1
  | y :: _ => nI y
theorem fol_L {f : Nat → Int32} (hV : Val f) : ∀ (i x s n : Nat), x < 16 → hF f x = true → up (PF f) i x = 0 → s + i ≤ 15 → i < n → X4_following_L12 f (n + 1) (-1) (nI x) (nI s) = some (hd (fut f x)) ∧ (fut f x = [] ∨ ∃ y, 0 < y ∧ y < 16 ∧ hF f y = true ∧ fut f x = y :: fut f y) := by
  intro i
  induction i with
  | zero =>
    intro x s n hx hh h0 hs hn
    obtain ⟨n, rfl⟩ : ∃ n', n = n' + 1 := ⟨n - 1, by omega⟩
    have : x = 0 := h0
    subst this
    have e0 : fut f 0 = [] := fut_0 f 16
    refine ⟨?_, Or.inl e0⟩
    have t0 : X4_trait f (nI 0) 0 = some (-1) := by
      rw [trait0' hx, trF_par hV.1 hx hh, if_pos rfl]
    have t1 : X4_trait f (nI 0) 1 = some 0 := by
      rw [trait1' hx, trF_here hh]
      exact congrArg some hV.2.2.1
    have c1 : X4_childAt f (-1) (0 + 1) = some (-1) := by
      obtain ⟨r, h1, h2⟩ := lp_fu (fun n (_ : Unit) z => X4_childAt_L2 (-1) (0 + 1) f n z) 0 16 (fun j _ => True) (fun r => r = -1) () (by decide) (by decide) trivial
        (fun n _ h => ⟨-1, by rw [X4_childAt_L2, if_pos (by decide)], rfl⟩)
        (fun n _ j hj hJ => by
          left
          refine ⟨(), trivial, ?_⟩
          have : chF f j (-1) = false := by
            cases h : chF f j (-1)
            · rfl
            · obtain ⟨q1, q2, q3⟩ := ch_h h
              obtain ⟨p1, p2, -⟩ := hV.1.par q1 hj q2
              rw [p1] at q3
              exact absurd q3 (i_m1 (by omega))
          rw [X4_childAt_L2, if_neg (by rw [nle_16 (by omega)]; omega), isChild_ok hj, ob_some, nar_1, this, if_pos bt_f])
      have : X4_childAt f (-1) (0 + 1) = some r := h1
      rw [this, h2]
    rw [X4_following_L12, if_neg (by rw [nle_16 (by omega)]; omega), if_pos rfl, if_neg (show ¬ nI 0 = -1 by decide), t0, ob_some, t1, ob_some, c1, ob_some, ob_some, nar_1, X4_following_L12, e0]
    by_cases z : (16 : Int32) ≤ nI (s + 1)
    · rw [if_pos z]; rfl
    · rw [if_neg z, if_pos rfl, if_pos rfl]; rfl
  | succ i ih =>
    intro x s n hx hh h0 hs hn
    obtain ⟨n, rfl⟩ : ∃ n', n = n' + 1 := ⟨n - 1, by omega⟩
    by_cases e : x = 0
    · exact ih x s (n + 1) hx hh (by rw [e]; exact up_fix rfl i) (by omega) (by omega)
    · have x0 : 0 < x := Nat.pos_of_ne_zero e
      obtain ⟨p1, p2, p3, p4, p5⟩ := hV.plx x0 hx hh
      have t0 : X4_trait f (nI x) 0 = some (nI (PF f x)) := trait0 hV.1 x0 hx hh
      have t1 : X4_trait f (nI x) 1 = some (nI (plN f x)) := by
        rw [trait1' hx, trF_here hh]
        exact congrArg some p1
      have hkc := kc_le f (PF f x)
      have hP := hV.2.2.2.1 (PF f x) p4
      rw [X4_following_L12, if_neg (by rw [nle_16 (by omega)]; omega), if_pos rfl, if_neg (i_m1 (by omega)), t0, ob_some, t1, ob_some, nar_1, childAt_ok hP (by omega), ob_some, ob_some, nar_1, fut_up hV x0 hx hh]
      unfold sibs
      by_cases c : plN f x + 1 < kc f (PF f x)
      · rw [if_pos c, kid_fut hV p4 c]
        obtain ⟨k1, k2, k3, -, -⟩ := kid_facts hV p4 c
        refine ⟨?_, Or.inr ⟨_, k1, k2, k3, rfl⟩⟩
        rw [X4_following_L12]
        by_cases z : (16 : Int32) ≤ nI (s + 1)
        · rw [if_pos z]; rfl
        · rw [if_neg z, if_neg (i_m1 (by omega))]; rfl
      · rw [if_neg c, kids_end (by omega), List.nil_append]
        exact ih (PF f x) (s + 1) n p4 p5 h0 (by omega) (by omega)
theorem fol_ok {f : Nat → Int32} (hV : Val f) {x : Nat} (hx : x < 16) (hh : hF f x = true) : X4_following f (nI x) = some (hd (kids f x ++ fut f x)) ∧ (kids f x ++ fut f x = [] ∨ ∃ y, 0 < y ∧ y < 16 ∧ hF f y = true ∧ kids f x ++ fut f x = y :: fut f y) := by
  have hP := hV.2.2.2.1 x hx
  unfold X4_following
  rw [show X4_childAt f (nI x) 0 = some (if 0 < kc f x then nI (kidN f x 0) else -1) from childAt_ok (k := 0) hP (by decide), ob_some]
  by_cases c : 0 < kc f x
  · obtain ⟨k1, k2, k3, -, -⟩ := kid_facts hV hx c
    have e : kids f x ++ fut f x = kidN f x 0 :: fut f (kidN f x 0) := kid_fut hV hx c
    rw [if_pos c, e]
    refine ⟨?_, Or.inr ⟨_, k1, k2, k3, rfl⟩⟩
    rw [fu_s, X4_following_L12, if_neg (by decide), if_neg (i_m1 (by omega))]; rfl
  · have e : kids f x = [] := kids_end (f := f) (x := x) (k := 0) (by omega)
    obtain ⟨i, hi, h1, -, -⟩ := hV.2.1.first hV.1.clo hx hh
    obtain ⟨a, b⟩ := fol_L hV i x 0 4095 hx hh h1 (by omega) (by omega)
    rw [if_neg c, e, List.nil_append]
    refine ⟨?_, b⟩
    rw [show X4_following_L12 f fu (-1) (nI x) 0 = some (hd (fut f x)) from a]; rfl
theorem fol_none {f : Nat → Int32} (hV : Val f) : X4_following f (-1) = some (-1) := by
  have c1 : X4_childAt f (-1) 0 = some (-1) := by
    obtain ⟨r, h1, h2⟩ := lp_fu (fun n (_ : Unit) z => X4_childAt_L2 (-1) 0 f n z) 0 16 (fun j _ => True) (fun r => r = -1) () (by decide) (by decide) trivial
      (fun n _ h => ⟨-1, by rw [X4_childAt_L2, if_pos (by decide)], rfl⟩)
      (fun n _ j hj hJ => by
        left
        refine ⟨(), trivial, ?_⟩
        have : chF f j (-1) = false := by
          cases h : chF f j (-1)
          · rfl
          · obtain ⟨q1, q2, q3⟩ := ch_h h
            obtain ⟨p1, p2, -⟩ := hV.1.par q1 hj q2
            rw [p1] at q3
            exact absurd q3 (i_m1 (by omega))
        rw [X4_childAt_L2, if_neg (by rw [nle_16 (by omega)]; omega), isChild_ok hj, ob_some, nar_1, this, if_pos bt_f])
    have : X4_childAt f (-1) 0 = some r := h1
    rw [this, h2]
  unfold X4_following
  rw [c1, ob_some, fu_s, X4_following_L12, if_neg (by decide), if_pos rfl, if_pos rfl]; rfl
