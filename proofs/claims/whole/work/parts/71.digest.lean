/-! ===== PHASE B: digest ===== -/
def St64 (cx cy : Option (Int64 × Mem)) : Prop := ∃ r u' v', cx = some (r, u') ∧ cy = some (r, v') ∧ Rel u' v'
def mx (h : Int64) (v : Int32) : Int64 := (31 * h) + (v.toInt64)
theorem mx_ok (h : Int64) (v : Int32) : X8_mixed h v = some (mx h v) := rfl
theorem dg1 {u v : Mem} (h : Rel u v) : ∀ c k n m x, k + c = 5 → c < n → c < m → ∃ y, X8_digest_L6 u n x (nI k) = some y ∧ X9_digest_L6 v m x (nI k) = some y := by
  intro c
  induction c with
  | zero =>
    intro k n m x h1 h2 h3
    obtain ⟨n, rfl⟩ : ∃ n', n = n' + 1 := ⟨n - 1, by omega⟩
    obtain ⟨m, rfl⟩ : ∃ n', m = n' + 1 := ⟨m - 1, by omega⟩
    have : k = 5 := by omega
    subst this
    exact ⟨x, by rw [X8_digest_L6, if_pos (by decide)], by rw [X9_digest_L6, if_pos (by decide)]⟩
  | succ c ih =>
    intro k n m x h1 h2 h3
    obtain ⟨n, rfl⟩ : ∃ n', n = n' + 1 := ⟨n - 1, by omega⟩
    obtain ⟨m, rfl⟩ : ∃ n', m = n' + 1 := ⟨m - 1, by omega⟩
    obtain ⟨r, r1, r2⟩ := tellCount_ok h (k := k) (by omega)
    obtain ⟨y, y1, y2⟩ := ih (k + 1) n m (mx x r) (by omega) (by omega) (by omega)
    refine ⟨y, ?_, ?_⟩
    · rw [X8_digest_L6, if_neg (by rw [nlt_4 (by omega)]; omega), r1, ob_some, mx_ok, ob_some, nar_1]; exact y1
    · rw [X9_digest_L6, if_neg (by rw [nle_5 (by omega)]; omega), r2, ob_some, nar_1]; exact y2
theorem dg2 : ∀ c k n m x (u v : Mem), Rel u v → k + c = 4 → c < n → c < m → ∃ y u' v', X8_digest_L29 n x (nI k) u = some (y, u') ∧ X9_digest_L32 m x (nI k) v = some (y, v') ∧ Rel u' v' := by
  intro c
  induction c with
  | zero =>
    intro k n m x u v h h1 h2 h3
    obtain ⟨n, rfl⟩ : ∃ n', n = n' + 1 := ⟨n - 1, by omega⟩
    obtain ⟨m, rfl⟩ : ∃ n', m = n' + 1 := ⟨m - 1, by omega⟩
    have : k = 4 := by omega
    subst this
    exact ⟨x, u, v, by rw [X8_digest_L29, if_pos (by decide)], by rw [X9_digest_L32, if_pos (by decide)], h⟩
  | succ c ih =>
    intro k n m x u v h h1 h2 h3
    obtain ⟨n, rfl⟩ : ∃ n', n = n' + 1 := ⟨n - 1, by omega⟩
    obtain ⟨m, rfl⟩ : ∃ n', m = n' + 1 := ⟨m - 1, by omega⟩
    obtain ⟨r, u1, v1, r1, r2, r3, r4⟩ := tellDesk_ok h (w := k) (by omega)
    obtain ⟨y, u2, v2, y1, y2, y3⟩ := ih (k + 1) n m (mx x r) u1 v1 (h.viaM r3 r4) (by omega) (by omega) (by omega)
    refine ⟨y, u2, v2, ?_, ?_, y3⟩
    · rw [X8_digest_L29, if_neg (by rw [nlt_3 (by omega)]; omega), r1, ob_2, mx_ok, ob_some, nar_1]; exact y1
    · rw [X9_digest_L32, if_neg (by rw [nle_4 (by omega)]; omega), r2, ob_2, nar_1]; exact y2
/-! an outline, section by section -/
theorem dg_four {u v : Mem} {o s i : Nat} (hR : RR (u (25 + rowO o)) (v 1) (64 * o)) (hV : Val (u (25 + rowO o))) (ho : o < 4) (hs : s < 16) (hh : hF (u (25 + rowO o)) s = true) (hi : i < 16) (h11 : v 11 i = nI s) : ∀ c k n m x, k + c = 4 → c < n → c < m → ∃ y, X8_mixedOutline_L50 (rowO o) u (nI s) n x (nI k) = some y ∧ X9_digest_L126 (nI o) v (nI i) m x (nI k) = some y := by
  intro c
  induction c with
  | zero =>
    intro k n m x h1 h2 h3
    obtain ⟨n, rfl⟩ : ∃ n', n = n' + 1 := ⟨n - 1, by omega⟩
    obtain ⟨m, rfl⟩ : ∃ n', m = n' + 1 := ⟨m - 1, by omega⟩
    have : k = 4 := by omega
    subst this
    exact ⟨x, by rw [X8_mixedOutline_L50, if_pos (by decide)], by rw [X9_digest_L126, if_pos (by decide)]⟩
  | succ c ih =>
    intro k n m x h1 h2 h3
    obtain ⟨n, rfl⟩ : ∃ n', n = n' + 1 := ⟨n - 1, by omega⟩
    obtain ⟨m, rfl⟩ : ∃ n', m = n' + 1 := ⟨m - 1, by omega⟩
    obtain ⟨r, r1, r2⟩ := of_ok hR hV ho hs hh (w := k) (by omega)
    rw [if_neg (by rw [neq_4 (by omega)]; omega), if_neg (by rw [neq_5 (by omega)]; omega)] at r1
    obtain ⟨y, y1, y2⟩ := ih (k + 1) n m (mx x r) (by omega) (by omega) (by omega)
    refine ⟨y, ?_, ?_⟩
    · rw [X8_mixedOutline_L50, if_neg (by rw [nlt_3 (by omega)]; omega), r1, ob_some, mx_ok, ob_some, nar_1]; exact y1
    · rw [X9_digest_L126, if_neg (by rw [nle_4 (by omega)]; omega), rd_ok hi (by decide), ob_some, h11, r2, ob_some, nar_1]; exact y2
theorem dg_outl {u v : Mem} {o : Nat} (hR : RR (u (25 + rowO o)) (v 1) (64 * o)) (hV : Val (u (25 + rowO o))) (ho : o < 4) (x : Int64) : ∃ y v', X8_mixedOutline u x (rowO o) = some y ∧ (∀ m, X9_digest_L62 (m + 1) x (nI o) v = X9_digest_L62 m y (nI (o + 1)) v') ∧ W2 v v' := by
  obtain ⟨V, v', e1, e2, e3, e4⟩ := walkAll_ok hV ho hR
  have hlen := e2.len
  rw [List.length_nil, Nat.add_zero] at hlen
  have hall := e2.all hV
  have hR' : RR (u (25 + rowO o)) (v' 1) (64 * o) := by rw [e3 1 (by decide) (by decide)]; exact hR
  obtain ⟨d, -, d1, d2⟩ := depth_ok ho hV hR'
  have main : ∀ c i n m x, i + c = V.length → c < n → c < m → ∃ y, X8_mixedOutline_L25 (rowO o) u (nI V.length) n x (itF (u (25 + rowO o)) i) (nI i) = some y ∧ X9_digest_L101 (nI o) (nI V.length) v' m x (nI i) = some y := by
    intro c
    induction c with
    | zero =>
      intro i n m x h1 h2 h3
      obtain ⟨n, rfl⟩ : ∃ n', n = n' + 1 := ⟨n - 1, by omega⟩
      obtain ⟨m, rfl⟩ : ∃ n', m = n' + 1 := ⟨m - 1, by omega⟩
      have : i = V.length := by omega
      rw [this]
      exact ⟨x, by rw [X8_mixedOutline_L25, if_pos (Int32.le_refl _)], by rw [X9_digest_L101, if_pos (Int32.le_refl _)]⟩
    | succ c ih =>
      intro i n m x h1 h2 h3
      obtain ⟨n, rfl⟩ : ∃ n', n = n' + 1 := ⟨n - 1, by omega⟩
      obtain ⟨m, rfl⟩ : ∃ n', m = n' + 1 := ⟨m - 1, by omega⟩
      have hi2 : V[i]? = some (V[i]'(by omega)) := List.getElem?_eq_getElem (by omega)
      have hit := e2.2.2.2.2.2.2.1 i _ hi2
      have h11 := e4 i _ hi2
      obtain ⟨hs, hh⟩ := e2.2.1 (V[i]'(by omega)) (by simp)
      obtain ⟨y1, a1, a2⟩ := dg_four hR' hV ho hs hh (show i < 16 by omega) h11 4 0 fu fu (mx x (nI (V[i]'(by omega)))) (by decide) (by decide) (by decide)
      obtain ⟨y, b1, b2⟩ := ih (i + 1) n m y1 (by omega) (by omega) (by omega)
      refine ⟨y, ?_, ?_⟩
      · have hf := e2.fol hV i
        rw [hit] at hf
        rw [X8_mixedOutline_L25, if_neg (by rw [c_le (by omega) (by omega)]; omega), if_neg (by rw [nle_16 (by omega)]; omega), hit, mx_ok, ob_some, show X8_mixedOutline_L50 (rowO o) u (nI (V[i]'(by omega))) fu (mx x (nI (V[i]'(by omega)))) 0 = some y1 from a1, ob_some, hf, ob_some, nar_1]; exact b1
      · rw [X9_digest_L101, if_neg (by rw [c_le (by omega) (by omega)]; omega), rd_ok (by omega) (by decide), ob_some, h11, show X9_digest_L126 (nI o) v' (nI i) fu ((31 * x) + ((nI (V[i]'(by omega)) : Int32).toInt64)) 0 = some y1 from a2, ob_some, nar_1]; exact b2
  obtain ⟨y, y1, y2⟩ := main V.length 0 fu fu (mx (mx x (nI V.length)) (nI d)) (by omega) (by rw [fu_big]; omega) (by rw [fu_big]; omega)
  refine ⟨y, v', ?_, fun m => ?_, e3⟩
  · unfold X8_mixedOutline
    rw [count_ok, ob_some, mx_ok, ob_some, d1, ob_some, mx_ok, ob_some, ← hall, show X8_mixedOutline_L25 (rowO o) u (nI V.length) fu (mx (mx x (nI V.length)) (nI d)) 0 0 = some y from y1]; rfl
  · rw [X9_digest_L62, if_neg (by rw [nle_4 (by omega)]; omega), e1, ob_2, rMany rfl ho hR', ob_some, d2, ob_some, ← hall, show X9_digest_L101 (nI o) (nI V.length) v' fu ((31 * ((31 * x) + ((nI V.length : Int32).toInt64))) + ((nI d : Int32).toInt64)) 0 = some y from y2, ob_some, nar_1]
theorem dg3 {u v uc vb : Mem} (hx : X3_refresh u 0 = some uc) (hM : Mg uc vb) (hr : Rel uc vb) (hr2 : Rel u vb) (x : Int64) : ∃ y v', X8_digest_L52 fu x 0 u = some (y, uc) ∧ X9_digest_L62 fu x 0 vb = some (y, v') ∧ W2 vb v' := by
  have step : ∀ (v : Mem) (o : Nat) (x : Int64), o < 3 → Rel u v → ∃ y v', (∀ n, X8_digest_L52 (n + 1) x (nI o) u = X8_digest_L52 n y (nI (o + 1)) u) ∧ (∀ m, X9_digest_L62 (m + 1) x (nI o) v = X9_digest_L62 m y (nI (o + 1)) v') ∧ W2 v v' := by
    intro v o x ho hrel
    obtain ⟨hR, hV⟩ := row_any hrel (o := o) (by omega) (fun z => by omega)
    obtain ⟨y, v', a1, a2, a3⟩ := dg_outl hR hV (by omega) x
    refine ⟨y, v', fun n => ?_, a2, a3⟩
    have hout : X8_outline u (nI o) = some (rowO o, u) := by
      unfold X8_outline rowO
      rw [if_neg (by rw [neq_3 (by omega)]; omega), outl_ok u ho, ob_some, if_neg (by omega)]
    rw [X8_digest_L52, if_neg (by rw [nlt_3 (by omega)]; omega), hout, ob_2, a1, ob_some, nar_1]
  obtain ⟨y0, v0, a1, a2, a3⟩ := step vb 0 x (by decide) hr2
  obtain ⟨y1, v1, b1, b2, b3⟩ := step v0 1 y0 (by decide) (hr2.viaW a3)
  obtain ⟨y2, v2, c1, c2, c3⟩ := step v1 2 y1 (by decide) ((hr2.viaW a3).viaW b3)
  have w2 : W2 vb v2 := fun i p q => by rw [c3 i p q, b3 i p q, a3 i p q]
  have hM2 : RR (uc (25 + rowO 3)) (v2 1) (64 * 3) := by
    rw [w2 1 (by decide) (by decide)]; exact hM.1
  obtain ⟨y, v', d1, d2, d3⟩ := dg_outl (o := 3) hM2 hM.2.1 (by decide) y2
  refine ⟨y, v', ?_, ?_, fun i p q => by rw [d3 i p q, w2 i p q]⟩
  · have hout : X8_outline u 3 = some (rowO 3, uc) := by
      unfold X8_outline
      rw [if_pos rfl, hx]; rfl
    have e3 : ∀ n, X8_digest_L52 (n + 1) y2 (nI 3) u = X8_digest_L52 n y (nI 4) uc := by
      intro n
      rw [X8_digest_L52, if_neg (by decide), show X8_outline u (nI 3) = some (rowO 3, uc) from hout, ob_2, d1, ob_some, nar_1]
    have e4 : ∀ n, X8_digest_L52 (n + 1) y (nI 4) uc = some (y, uc) := by
      intro n
      rw [X8_digest_L52, if_pos (by decide)]
    rw [show X8_digest_L52 fu x 0 u = X8_digest_L52 (4091 + 1 + 1 + 1 + 1 + 1) x (nI 0) u by rw [fu_s]; rfl]
    rw [a1, b1, c1, e3, e4]
  · have e4 : ∀ n, X9_digest_L62 (n + 1) y (nI 4) v' = some (y, v') := by
      intro n
      rw [X9_digest_L62, if_pos (by decide)]
    rw [show X9_digest_L62 fu x 0 vb = X9_digest_L62 (4091 + 1 + 1 + 1 + 1 + 1) x (nI 0) vb by rw [fu_s]; rfl]
    rw [a2, b2, c2, d2, e4]
theorem dg4 {u v : Mem} {n : Nat} (hn : n ≤ 112) (hM : MC u v n) (x : Int64) : ∃ y, X8_mixedConflicts u x 0 = some y ∧ X9_digest_L186 v fu ((31 * x) + ((v 0 13 : Int32).toInt64)) 0 = some y := by
  obtain ⟨m1, m2, m3⟩ := hM
  have ans : ∀ i w, i < n → w < 3 → X6_answer u 0 (nI i) (nI w) = some (v 10 (3 * i + w)) := by
    intro i w hi hw
    unfold X6_answer
    have l1 : ¬ Int32.ofNat (lenT 0) ≤ nI i := by
      show ¬ nI 128 ≤ nI i
      rw [c_le (by omega) (by omega)]; omega
    have l2 : nI i < Int32.ofNat (lenT 0) := by
      show nI i < nI 128
      rw [c_lt (by omega) (by omega)]; omega
    have nl : ¬ nI n ≤ nI i := by rw [c_le (by omega) (by omega)]; omega
    have hl : i < lenT 0 := by rw [lenT0]; omega
    have hll : lenT 0 < 2147483648 := by decide
    obtain ⟨m31, m32, m33⟩ := m3 i hi
    rw [if_neg (i_m1 (by omega)), if_neg (i_nn (by omega)), show u (64 + 4 * 0) 3 = nI n from m1, if_neg nl, if_neg l1, if_neg l1, if_pos l2, rd_ok hl hll, rd_ok hl hll, rd_ok hl hll, ob_some, ob_some, ob_some]
    rcases (show w = 0 ∨ w = 1 ∨ w = 2 by omega) with e | e | e <;> subst e
    · rw [if_pos (by decide)]; exact congrArg some m31
    · rw [if_neg (by decide), if_pos (by decide)]; exact congrArg some m32
    · rw [if_neg (by decide), if_neg (by decide)]; exact congrArg some m33
  have main : ∀ d i n' m x, i + d = n → d < n' → 3 * d < m → ∃ y, X8_mixedConflicts_L12 0 u n' x (nI i) = some y ∧ X9_digest_L186 v m x (nI (3 * i)) = some y := by
    intro d
    induction d with
    | zero =>
      intro i n' m x h1 h2 h3
      obtain ⟨n', rfl⟩ : ∃ n'', n' = n'' + 1 := ⟨n' - 1, by omega⟩
      obtain ⟨m, rfl⟩ : ∃ n', m = n' + 1 := ⟨m - 1, by omega⟩
      have : i = n := by omega
      subst this
      exact ⟨x, by rw [X8_mixedConflicts_L12, show u (64 + 4 * 0) 3 = nI i from m1, if_pos (Int32.le_refl _)], by rw [X9_digest_L186, m2, nml_3, if_pos (Int32.le_refl _)]⟩
    | succ d ih =>
      intro i n' m x h1 h2 h3
      obtain ⟨n', rfl⟩ : ∃ n'', n' = n'' + 1 := ⟨n' - 1, by omega⟩
      obtain ⟨m, rfl⟩ : ∃ n', m = n' + 1 + 1 + 1 := ⟨m - 3, by omega⟩
      obtain ⟨y, y1, y2⟩ := ih (i + 1) n' m (mx (mx (mx x (v 10 (3 * i + 0))) (v 10 (3 * i + 1))) (v 10 (3 * i + 2))) (by omega) (by omega) (by omega)
      refine ⟨y, ?_, ?_⟩
      · have s32 : ∀ k w x, w < 3 → X8_mixedConflicts_L32 0 u (nI i) (k + 1) x (nI w) = X8_mixedConflicts_L32 0 u (nI i) k (mx x (v 10 (3 * i + w))) (nI (w + 1)) := by
          intro k w x hw
          rw [X8_mixedConflicts_L32, if_neg (by rw [nlt_2 (by omega)]; omega), ans i w (by omega) hw, ob_some, mx_ok, ob_some, nar_1]
        have s3 : ∀ k x, X8_mixedConflicts_L32 0 u (nI i) (k + 1) x (nI 3) = some x := by
          intro k x
          rw [X8_mixedConflicts_L32, if_pos (by decide)]
        have all : X8_mixedConflicts_L32 0 u (nI i) fu x 0 = some (mx (mx (mx x (v 10 (3 * i + 0))) (v 10 (3 * i + 1))) (v 10 (3 * i + 2))) := by
          rw [show X8_mixedConflicts_L32 0 u (nI i) fu x 0 = X8_mixedConflicts_L32 0 u (nI i) (4092 + 1 + 1 + 1 + 1) x (nI 0) by rw [fu_s]; rfl]
          rw [s32 _ 0 _ (by decide), s32 _ 1 _ (by decide), s32 _ 2 _ (by decide), s3]
        rw [X8_mixedConflicts_L12, show u (64 + 4 * 0) 3 = nI n from m1, if_neg (by rw [c_le (by omega) (by omega)]; omega), if_neg (by rw [nle_128 (by omega)]; omega), all, ob_some, nar_1]
        exact y1
      · have s1 : ∀ k j x, j < 3 * n → X9_digest_L186 v (k + 1) x (nI j) = X9_digest_L186 v k (mx x (v 10 j)) (nI (j + 1)) := by
          intro k j x hj
          rw [X9_digest_L186, m2, nml_3, if_neg (by rw [c_le (by omega) (by omega)]; omega), rd_ok (by omega) (by decide), ob_some, nar_1]; rfl
        rw [s1 _ _ _ (by omega), s1 _ _ _ (by omega), s1 _ _ _ (by omega)]
        rw [show 3 * i + 1 + 1 + 1 = 3 * (i + 1) by omega]
        exact y2
  obtain ⟨y, y1, y2⟩ := main n 0 fu fu (mx x (nI n)) (by omega) (by rw [fu_big]; omega) (by rw [fu_big]; omega)
  refine ⟨y, ?_, ?_⟩
  · unfold X8_mixedConflicts
    rw [show u (64 + 4 * 0) 3 = nI n from m1, mx_ok, ob_some, show X8_mixedConflicts_L12 0 u fu (mx x (nI n)) 0 = some y from y1]; rfl
  · rw [m2]; exact y2
theorem dg5 {u v : Mem} (h : Rel u v) (x : Int64) : ∃ y u' v', X8_digest_L87 fu x 1 u = some (y, u') ∧ X9_digest_L218 fu x 1 v = some (y, v') ∧ Rel u' v' := by
  have step : ∀ (u v : Mem) (o : Nat) (x : Int64), (o = 1 ∨ o = 2) → Rel u v → ∃ y u' v', (∀ n, X8_digest_L87 (n + 1) x (nI o) u = X8_digest_L87 n y (nI (o + 1)) u') ∧ (∀ m, X9_digest_L218 (m + 1) x (nI o) v = X9_digest_L218 m y (nI (o + 1)) v') ∧ Rel u' v' := by
    intro u v o x ho hrel
    obtain ⟨u', v', n, e1, e2, ⟨m1, m2, -⟩, -, e4, e5⟩ := write_ok hrel ho
    refine ⟨mx x (nI n), u', v', fun k => ?_, fun k => ?_, hrel.viaS e4 e5⟩
    · rw [X8_digest_L87, if_neg (by rw [nlt_2 (by omega)]; omega), show X0_outline u 0 0 = some 0 from outl_ok u (o := 0) (by decide), ob_some, outl_ok u (by omega), ob_some, e1, ob_some, m1, mx_ok, ob_some, nar_1]
    · rw [X9_digest_L218, if_neg (by rw [nle_3 (by omega)]; omega), e2, ob_some, m2, nar_1]; rfl
  obtain ⟨y1, u1, v1, a1, a2, a3⟩ := step u v 1 x (Or.inl rfl) h
  obtain ⟨y2, u2, v2, b1, b2, b3⟩ := step u1 v1 2 y1 (Or.inr rfl) a3
  refine ⟨y2, u2, v2, ?_, ?_, b3⟩
  · rw [show X8_digest_L87 fu x 1 u = X8_digest_L87 (4093 + 1 + 1 + 1) x (nI 1) u by rw [fu_s]; rfl]
    rw [a1, b1, X8_digest_L87, if_pos (by decide)]
  · rw [show X9_digest_L218 fu x 1 v = X9_digest_L218 (4093 + 1 + 1 + 1) x (nI 1) v by rw [fu_s]; rfl]
    rw [a2, b2, X9_digest_L218, if_pos (by decide)]
theorem st_digest {u v : Mem} (h : Rel u v) : St64 (X8_digest u) (X9_digest v) := by
  obtain ⟨y1, a1, a2⟩ := dg1 h 5 0 fu fu 1703 (by decide) (by decide) (by decide)
  obtain ⟨y2, u2, v2, b1, b2, b3⟩ := dg2 4 0 fu fu y1 u v h (by decide) (by decide) (by decide)
  obtain ⟨uc, vb, c1, c2, c3, c4, c5, c6⟩ := asked b3
  obtain ⟨y3, v3, d1, d2, d3⟩ := dg3 (v := v2) c1 c4 c3 (b3.viaN c6) y2
  obtain ⟨n, hn, hm⟩ := c4.2.2.1
  have hm3 : MC uc v3 n := hm.keep rfl rfl rfl rfl (by rw [d3 0 (by decide) (by decide)]) (d3 10 (by decide) (by decide))
  obtain ⟨y4, e1, e2⟩ := dg4 hn hm3 y3
  obtain ⟨y5, u5, v5, f1, f2, f3⟩ := dg5 (c3.viaW d3) y4
  refine ⟨y5, u5, v5, ?_, ?_, f3⟩
  · unfold X8_digest
    rw [show X8_digest_L6 u fu 1703 0 = some y1 from a1, ob_some, show X8_digest_L29 fu y1 0 u = some (y2, u2) from b1, ob_2, d1, ob_2, e1, ob_some, f1, ob_2]
  · unfold X9_digest
    rw [show X9_digest_L6 v fu 1703 0 = some y1 from a2, ob_some, show X9_digest_L32 fu y1 0 v = some (y2, v2) from b2, ob_2, c2, ob_some, d2, ob_2, e2, ob_some, f2, ob_2]
