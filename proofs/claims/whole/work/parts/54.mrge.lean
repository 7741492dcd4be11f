/-! ===== PHASE B: merging, steps (b) to (d), the loops ===== -/
def Tr (w : Nat) : Prop := w = 0 ∨ w = 2 ∨ w = 3
def Jt (u0 v0 : Mem) (p : Nat) (q : Nat → Nat) (N : Nat) (u v : Mem) : Prop := FM u0 u ∧ FN v0 v ∧ (∀ j, j < 16 → u 49 (64 + j) = if inM u0 j = true then 1 else 0) ∧ (∀ j, j < 16 → (v 1 (192 + j) = -9 ↔ inM u0 j = false)) ∧ (∀ w, Tr w → ∀ j, j < 16 → j < q w → inM u0 j = true → u 49 (16 * w + j) = vlM u0 p j w ∧ v 1 (192 + 16 * w + j) = vlM u0 p j w) ∧ v 1 192 = -1 ∧ u 49 16 = 0 ∧ ∃ n, n ≤ N ∧ MC u v n
theorem in_side {u v : Mem} {p s : Nat} (hB : MB u v p) (h : inM u s = true) : hF (u (46 + p)) s = true ∨ hF (u (46 + (3 - p))) s = true := by
  have z : hF (u 47) s = true ∨ hF (u 48) s = true := by
    unfold inM chgF at h
    cases h1 : hF (u 47) s
    · cases h2 : hF (u 48) s
      · rw [h1, h2] at h
        cases h3 : hF (u 46) s <;> rw [h3] at h <;> simp at h
      · exact Or.inr rfl
    · exact Or.inl rfl
  rcases hB.2.1 with rfl | rfl
  · exact z
  · exact z.symm
theorem vl_from {u v : Mem} {p s : Nat} (hB : MB u v p) (h : inM u s = true) (w : Nat) : ∃ o, (o = 1 ∨ o = 2) ∧ hF (u (46 + o)) s = true ∧ vlM u p s w = trF (u (46 + o)) s w := by
  have hs := in_side hB h
  have hp := hB.2.1
  unfold vlM
  cases hc : s2M u p s w
  · rw [if_neg (by decide)]
    refine ⟨p, hp, ?_, rfl⟩
    unfold s2M at hc
    cases h1 : hF (u (46 + p)) s
    · rw [h1] at hc; cases hc
    · rfl
  · rw [if_pos rfl]
    refine ⟨3 - p, by omega, ?_, rfl⟩
    unfold s2M at hc
    rcases hs with z | z
    · rw [z] at hc
      cases h2 : hF (u (46 + (3 - p))) s
      · rw [h2] at hc; cases hc
      · rfl
    · exact z
theorem vl_m9 {u v : Mem} {p s : Nat} (hB : MB u v p) (hs : s < 16) (h : inM u s = true) : vlM u p s 0 ≠ -9 := by
  obtain ⟨o, ho, h1, h2⟩ := vl_from hB h 0
  have R := (hB.1 o (by omega)).1
  rw [h2, trF_here h1]
  obtain ⟨-, a2, a3, -⟩ := rr_yes R hs h1
  rw [show 16 * 0 + s = s by omega, a3]
  exact a2
theorem Jt.next {u0 v0 u v : Mem} {p k w N : Nat} {q : Nat → Nat} (h : Jt u0 v0 p q N u v) (hB : MB u0 v0 p) (hw : Tr w) (hw0 : w = 0 → 0 < k) (hqk : q w = k) (hk : k < 16) (hI : inM u0 k = true) {u' v' : Mem} {n' : Nat} (h1 : FM u u') (h2 : FN v v') (h3 : u' 49 = upd (u 49) (16 * w + k) (vlM u0 p k w)) (h4 : v' 1 = v 1) (h5 : MC u' v' n') (h6 : n' ≤ N + 1) : Jt u0 v0 p (fun i => if i = w then k + 1 else q i) (N + 1) u' (upm v' 1 (upd (v' 1) (192 + 16 * w + k) (vlM u0 p k w))) := by
  obtain ⟨a1, a2, a3, a4, a5, a6, a7, a8⟩ := h
  have hw3 : w = 0 ∨ w = 2 ∨ w = 3 := hw
  refine ⟨a1.tr h1, (a2.tr h2).tr (FN.p1 (by omega)), fun j hj => ?_, fun j hj => ?_, fun w' hw' j hj16 hj hIj => ?_, ?_, ?_, n', h6, ?_⟩
  · rw [h3, upd_n _ _ (by omega)]; exact a3 j hj
  · rw [upm_same, h4]
    by_cases e : 192 + j = 192 + 16 * w + k
    · have e0 : w = 0 ∧ j = k := by omega
      obtain ⟨rfl, rfl⟩ := e0
      rw [show 192 + 16 * 0 + j = 192 + j by omega, upd_s, hI]
      exact ⟨fun z => absurd z (vl_m9 hB hj hI), fun z => by cases z⟩
    · rw [upd_n _ _ e]; exact a4 j hj
  · rw [h3, upm_same, h4]
    by_cases e : w' = w ∧ j = k
    · obtain ⟨rfl, rfl⟩ := e
      rw [upd_s, upd_s]; exact ⟨rfl, rfl⟩
    · have hj2 : j < q w' := by
        simp only at hj
        by_cases e2 : w' = w
        · rw [if_pos e2] at hj
          rw [e2, hqk]
          omega
        · rw [if_neg e2] at hj; exact hj
      have hne : 16 * w' + j ≠ 16 * w + k := by
        by_cases e2 : w' = w
        · omega
        · omega
      rw [upd_n _ _ hne, upd_n _ _ (by omega)]
      exact a5 w' hw' j hj16 hj2 hIj
  · rw [upm_same, h4, upd_n _ _ (by omega)]; exact a6
  · rw [h3, upd_n _ _ (by omega)]; exact a7
  · exact h5.keep rfl rfl rfl rfl (by rw [upm_ne _ _ (by decide)]) (by rw [upm_ne _ _ (by decide)])
theorem Jt.skip {u0 v0 u v : Mem} {p k w N : Nat} {q : Nat → Nat} (h : Jt u0 v0 p q N u v) (hqk : q w = k) (hI : inM u0 k = false) : Jt u0 v0 p (fun i => if i = w then k + 1 else q i) (N + 1) u v := by
  obtain ⟨a1, a2, a3, a4, a5, a6, a7, n, hn, a8⟩ := h
  refine ⟨a1, a2, a3, a4, fun w' hw' j hj16 hj hIj => ?_, a6, a7, n, by omega, a8⟩
  have hj2 : j < q w' := by
    simp only at hj
    by_cases e2 : w' = w
    · rw [if_pos e2] at hj
      rw [e2, hqk]
      by_cases e3 : j = k
      · rw [e3, hI] at hIj; cases hIj
      · omega
    · rw [if_neg e2] at hj; exact hj
  exact a5 w' hw' j hj16 hj2 hIj
theorem hF_of {u : Mem} {j : Nat} {b : Bool} (h : u 49 (64 + j) = if b = true then 1 else 0) : hF (u 49) j = b := by
  unfold hF
  rw [h]
  cases b <;> rfl
theorem stT {u0 v0 : Mem} {p w k0 N : Nat} {q : Nat → Nat} {u v : Mem} {x y c : Int32} (hB : MB u0 v0 p) (hw : Tr w) (hx : x = nI w) (hy : y = nI (16 * w)) (hc : c = 2 ↔ w = 0) (hk0 : w = 0 → 0 < k0) (hk16 : k0 ≤ 16) (h : Jt u0 v0 p q N u v) (hq : q w = k0) (hN9 : N ≤ 100) : ∀ n m, 16 - k0 < n → 16 - k0 < m → ∃ u' v', X3_chooseTraits_L2 x c n (nI k0) u = some u' ∧ X9_merge_L63 c y m (nI k0) v = some v' ∧ Jt u0 v0 p (fun i => if i = w then 16 else q i) (N + (16 - k0)) u' v' := by
  intro n m hn hm
  have hw3 : w = 0 ∨ w = 2 ∨ w = 3 := hw
  obtain ⟨u', v', e1, e2, e3⟩ := lk (X3_chooseTraits_L2 x c) (X9_merge_L63 c y) 16 (by decide) (fun k u v => k0 ≤ k ∧ Jt u0 v0 p (fun i => if i = w then k else q i) (N + (k - k0)) u v) (fun n u => by rw [X3_chooseTraits_L2, if_pos (by decide)]) (fun n u => by rw [X9_merge_L63, if_pos (by decide)])
    (fun n m u v k hk ⟨hkk, hJ⟩ => by
      have hF1 := hJ.1
      have hF2 := hJ.2.1
      have hh := hF_of (hJ.2.2.1 k hk)
      have ha := hJ.2.2.2.1 k hk
      obtain ⟨nn, hnn, hmc⟩ := hJ.2.2.2.2.2.2.2
      have hB' := hB.keep hF1 hF2
      have hp := hB'.2.1
      have ef : (fun i => if i = w then k + 1 else (fun i => if i = w then k else q i) i) = fun i => if i = w then k + 1 else q i := by
        funext i
        by_cases e : i = w
        · simp [e]
        · simp [e]
      have hN : N + (k - k0) + 1 = N + (k + 1 - k0) := by omega
      have hin : X9_isIn v 3 (nI k) = some (inM u0 k) := by
        rw [rIn (x := 3) (o := 3) rfl rfl (by decide) hk, show 64 * 3 + k = 192 + k by omega]
        congr 1
        cases hI : inM u0 k
        · simp [ha.mpr hI]
        · have : v 1 (192 + k) ≠ -9 := fun z => by rw [ha.mp z] at hI; cases hI
          simp [this]
      have hyy : X9_merge_L63 c y (m + 1) (nI k) v = if inM u0 k = true then (X9_settle v y (nI k) c).bind fun m1 => X9_merge_L63 c y m (nI (k + 1)) m1 else X9_merge_L63 c y m (nI (k + 1)) v := by
        rw [X9_merge_L63, if_neg (by rw [nle_16 (by omega)]; omega), hin, ob_some, nar_1]
        cases inM u0 k
        · rw [if_pos bt_f]; rfl
        · rw [if_neg bt_t]; rfl
      rw [ct_step hp hB'.2.2.1 hk (by omega) hx, hyy, hh]
      cases hI : inM u0 k
      · have := hJ.skip (w := w) (k := k) (by simp) hI
        rw [ef, hN] at this
        exact ⟨u, v, ⟨by omega, this⟩, rfl, rfl⟩
      · rw [if_pos rfl, if_pos rfl, settle_step hB' hk hw3 (in_side hB' (by rw [inM_keep hF1]; exact hI)) hy hc, dsM_keep hF1 hp, vlM_keep hF1 hp]
        have mcs : MC (setM u p k w) v nn := hmc.keep (upm_ne _ _ (by decide)) (upm_ne _ _ (by decide)) (upm_ne _ _ (by decide)) (upm_ne _ _ (by decide)) rfl rfl
        have s49 : setM u p k w 49 = upd (u 49) (16 * w + k) (vlM u0 p k w) := by
          unfold setM
          rw [upm_same, vlM_keep hF1 hp]
        cases hd : dsM u0 p k w
        · have := hJ.next hB hw (fun z => by have := hk0 z; omega) (by simp) hk hI (u' := setM u p k w) (v' := v) FM.p49 FN.rf s49 rfl mcs (by omega)
          rw [ef, hN] at this
          exact ⟨_, _, ⟨by omega, this⟩, rfl, rfl⟩
        · rw [if_pos rfl, if_pos rfl]
          obtain ⟨u', v', t1, t2, t3, t4, t5, t6⟩ := tell_ok (by omega) mcs c (nI k) (otM u p k w)
          rw [t1, t2, ob_some, ob_some, ob_some]
          have := hJ.next hB hw (fun z => by have := hk0 z; omega) (by simp) hk hI (u' := u') (v' := v') (FM.p49.tr (FM.tell t4)) (FN.tell t5 t6) (by rw [t4 49 (by decide) (by decide) (by decide) (by decide)]; exact s49) (t5 1 (by decide) (by decide)) t3 (by omega)
          rw [ef, hN] at this
          exact ⟨_, _, ⟨by omega, this⟩, rfl, rfl⟩)
    k0 u v n m hk16 hn hm ⟨by omega, by
      have ef : (fun i => if i = w then k0 else q i) = q := by
        funext i
        by_cases e : i = w
        · simp [e, hq]
        · simp [e]
      rw [ef, Nat.sub_self]
      exact h⟩
  exact ⟨u', v', e1, e2, e3.2⟩
theorem Jt.weak {u0 v0 u v : Mem} {p N N' : Nat} {q q' : Nat → Nat} (h : Jt u0 v0 p q N u v) (hq : ∀ w, Tr w → q' w ≤ q w) (hN : N ≤ N') : Jt u0 v0 p q' N' u v := by
  obtain ⟨a1, a2, a3, a4, a5, a6, a7, n, hn, a8⟩ := h
  exact ⟨a1, a2, a3, a4, fun w hw j hj hj2 hI => a5 w hw j hj (Nat.lt_of_lt_of_le hj2 (hq w hw)) hI, a6, a7, n, by omega, a8⟩
theorem inM_root {u v : Mem} {p : Nat} (hB : MB u v p) : inM u 0 = true := by
  have root : ∀ o, o < 3 → hF (u (46 + o)) 0 = true := fun o ho => by rw [hh_of]; exact (hB.1 o ho).2.1.1
  have r0 : hF (u 46) 0 = true := root 0 (by decide)
  have r1 : hF (u 47) 0 = true := root 1 (by decide)
  have r2 : hF (u 48) 0 = true := root 2 (by decide)
  unfold inM; rw [r0, r1, r2]; rfl
theorem vl_root {u v : Mem} {p : Nat} (hB : MB u v p) : vlM u p 0 0 = -1 ∧ dsM u p 0 0 = false := by
  have root : ∀ o, o < 3 → trF (u (46 + o)) 0 0 = -1 := fun o ho => by
    have := (hB.1 o ho).2.1
    rw [trF_here (by rw [hh_of]; exact this.1)]
    exact this.2.1
  have hp := hB.2.1
  have e1 := root p (by omega)
  have e2 := root (3 - p) (by omega)
  unfold vlM dsM
  rw [e1, e2]
  constructor
  · cases s2M u p 0 0 <;> rfl
  · simp
theorem fu_s : fu = 4095 + 1 := rfl
theorem stBCD {u0 v0 u v : Mem} {p : Nat} (hB : MB u0 v0 p) (h : Ja u0 v0 16 u v) : ∃ u' v', ((X3_chooseTraits u 2 0).bind fun m1 => (X3_chooseTraits m1 3 1).bind fun m2 => X3_chooseTraits m2 0 2) = some u' ∧ X9_merge_L26 fu 0 v = some v' ∧ Jt u0 v0 p (fun _ => 16) 64 u' v' := by
  obtain ⟨a1, a2, a3, a4, a5, a6, n, hn, a7⟩ := h
  have hr := inM_root hB
  have h0 : Jt u0 v0 p (fun _ => 0) 16 u v := by
    refine ⟨a1, a2, fun j hj => ?_, fun j hj => ?_, fun w hw j _ hj => absurd hj (Nat.not_lt_zero _), ?_, a6, n, hn, a7⟩
    · rw [a3 j hj]
      by_cases e : inM u0 j = true
      · rw [if_pos e, if_pos (Or.inr ⟨hj, e⟩)]
      · rw [if_neg e, if_neg (fun z => e (by rcases z with z | z; rw [z]; exact hr; exact z.2))]
    · rw [a4 j hj]
      cases inM u0 j
      · simp
      · simp
    · have := a4 0 (by decide)
      rw [hr] at this
      exact this
  obtain ⟨u1, v1, x1, y1, h1⟩ := stT (w := 2) (x := 2) (y := 32) (c := 0) (k0 := 0) hB (Or.inr (Or.inl rfl)) rfl rfl (by decide) (by omega) (by omega) h0 rfl (by omega) fu fu (by decide) (by decide)
  obtain ⟨u2, v2, x2, y2, h2⟩ := stT (w := 3) (x := 3) (y := 48) (c := 1) (k0 := 0) hB (Or.inr (Or.inr rfl)) rfl rfl (by decide) (by omega) (by omega) h1 rfl (by omega) fu fu (by decide) (by decide)
  have hB2 := hB.keep h2.1 h2.2.1
  have hp := hB.2.1
  have hf : FM u2 (setM u2 p 0 0) := FM.p49
  have h3 : Jt u0 v0 p (fun i => if i = 0 then 1 else if i = 3 then 16 else if i = 2 then 16 else 0) 48 (setM u2 p 0 0) v2 := by
    obtain ⟨b1, b2, b3, b4, b5, b6, b7, n2, hn2, b8⟩ := h2
    have ev : setM u2 p 0 0 49 = upd (u2 49) 0 (-1) := by
      unfold setM
      rw [upm_same, vlM_keep b1 hp, (vl_root hB).1]
    refine ⟨b1.tr hf, b2, fun j hj => ?_, b4, fun w hw j hj hj2 hI => ?_, b6, ?_, n2, by omega, b8.keep (upm_ne _ _ (by decide)) (upm_ne _ _ (by decide)) (upm_ne _ _ (by decide)) (upm_ne _ _ (by decide)) rfl rfl⟩
    · rw [ev, upd_n _ _ (by omega)]; exact b3 j hj
    · rcases hw with rfl | rfl | rfl
      · have : j = 0 := by
          have : j < 1 := hj2
          omega
        subst this
        rw [ev, (vl_root hB).1]
        exact ⟨upd_s _ _ _, b6⟩
      · rw [ev, upd_n _ _ (by omega)]
        exact b5 2 (Or.inr (Or.inl rfl)) j hj hj hI
      · rw [ev, upd_n _ _ (by omega)]
        exact b5 3 (Or.inr (Or.inr rfl)) j hj hj hI
    · rw [ev, upd_n _ _ (by omega)]; exact b7
  have x3 : ∀ n, X3_chooseTraits_L2 0 2 (n + 1) (nI 0) u2 = X3_chooseTraits_L2 0 2 n (nI 1) (setM u2 p 0 0) := by
    intro n
    rw [ct_step (w := 0) (s := 0) (x := 0) hp hB2.2.2.1 (by decide) (by decide) rfl, (vl_root hB2).2, hF_of (h2.2.2.1 0 (by decide)), hr]
    rfl
  obtain ⟨u3, v3, x4, y4, h4⟩ := stT (w := 0) (x := 0) (y := 0) (c := 2) (k0 := 1) hB (Or.inl rfl) rfl rfl (by decide) (by omega) (by omega) h3 rfl (by omega) 4095 fu (by decide) (by decide)
  refine ⟨u3, v3, ?_, ?_, h4.weak (fun w hw => ?_) (by omega)⟩
  · unfold X3_chooseTraits
    show ((X3_chooseTraits_L2 2 0 fu (nI 0) u).bind fun mu3 => some mu3).bind _ = _
    rw [x1, ob_some, ob_some]
    show ((X3_chooseTraits_L2 3 1 fu (nI 0) u1).bind fun mu3 => some mu3).bind _ = _
    rw [x2, ob_some, ob_some]
    show ((X3_chooseTraits_L2 0 2 fu (nI 0) u2).bind fun mu3 => some mu3) = _
    rw [fu_s, x3, x4]; rfl
  · have s0 : ∀ n v, X9_merge_L26 (n + 1) 0 v = (X9_merge_L63 0 32 fu (nI 0) v).bind fun m => X9_merge_L26 n 1 m := fun n v => rfl
    have s1 : ∀ n v, X9_merge_L26 (n + 1) 1 v = (X9_merge_L63 1 48 fu (nI 0) v).bind fun m => X9_merge_L26 n 2 m := fun n v => rfl
    have s2 : ∀ n v, X9_merge_L26 (n + 1) 2 v = (X9_merge_L63 2 0 fu (nI 1) v).bind fun m => X9_merge_L26 n 3 m := fun n v => rfl
    have s3 : ∀ n v, X9_merge_L26 (n + 1) 3 v = some v := fun n v => rfl
    rw [show X9_merge_L26 fu 0 v = X9_merge_L26 (4092 + 1 + 1 + 1 + 1) 0 v by rw [fu_s]]
    rw [s0, y1, ob_some, s1, y2, ob_some, s2, y4, ob_some, s3]
  · rcases hw with rfl | rfl | rfl <;> decide
