/-! ===== PHASE B: merging, step (a): which sections ===== -/
def inM (u : Mem) (s : Nat) : Bool := if hF (u 46) s = true then (hF (u 47) s && hF (u 48) s) || (chgF (u 47) (u 46) s || chgF (u 48) (u 46) s) else hF (u 47) s || hF (u 48) s
def cfM (u : Mem) (s : Nat) : Bool := hF (u 46) s && (!(hF (u 47) s && hF (u 48) s) && (chgF (u 47) (u 46) s || chgF (u 48) (u 46) s))
def incl (u : Mem) (s : Nat) : Mem := upm u 49 (upd (u 49) (64 + s) 1)
theorem cs_step {u : Mem} {n s : Nat} (hs : s < 16) : X3_chooseSections_L2 (n + 1) (nI s) u = if cfM u s = true then (X6_tell (incl u s) 0 3 (nI s) (nI s)).bind fun m => X3_chooseSections_L2 n (nI (s + 1)) m else if inM u s = true then X3_chooseSections_L2 n (nI (s + 1)) (incl u s) else X3_chooseSections_L2 n (nI (s + 1)) u := by
  have hi : stO u 49 (X4_include (u 49) (nI s)) = some (incl u s) := by
    unfold stO
    rw [include_ok hs, ob_some]
    rfl
  rw [X3_chooseSections_L2, if_neg (by rw [nle_16 (by omega)]; omega), holds_ok hs, ob_some, holds_ok hs, ob_some, holds_ok hs, ob_some, nar_1, hi]
  have c1 : X3_isChanged u (nI s) 22 = some (chgF (u 47) (u 46) s) := isChanged_ok hs
  have c2 : X3_isChanged u (nI s) 23 = some (chgF (u 48) (u 46) s) := isChanged_ok hs
  rw [c1, c2]
  simp only [ob_some]
  unfold cfM inM
  cases hF (u 46) s <;> cases hF (u 47) s <;> cases hF (u 48) s <;> cases chgF (u 47) (u 46) s <;> cases chgF (u 48) (u 46) s <;> rfl
theorem mi_step {u v : Mem} {p s : Nat} (hB : MB u v p) (hs : s < 16) : X9_mergeIn v (nI s) = (if cfM u s = true then X9_conflict v 3 (nI s) (nI s) else some v).bind fun m => some (upm m 1 (upd (m 1) (192 + s) (if inM u s = true then -1 else -9))) := by
  have rB : RR (u 46) (v 1) (64 * 0) := (hB.1 0 (by decide)).1
  have rL : RR (u 47) (v 1) (64 * 1) := (hB.1 1 (by decide)).1
  have rR : RR (u 48) (v 1) (64 * 2) := (hB.1 2 (by decide)).1
  unfold X9_mergeIn
  rw [rIn (x := 1) (o := 1) rfl rfl (by decide) hs, rIn (x := 2) (o := 2) rfl rfl (by decide) hs, rIn (x := 0) (o := 0) rfl rfl (by decide) hs, rr_h rB hs, rr_h rL hs, rr_h rR hs]
  simp only [ob_some, nal_192]
  have fin : ∀ (m : Mem) (b : Bool), ((if b2i b = 0 then some (-9 : Int32) else some (-1)).bind fun x8 => (stI 258 m 1 (nI (192 + s)) x8).bind fun mu10 => some mu10) = some (upm m 1 (upd (m 1) (192 + s) (if b = true then -1 else -9))) := by
    intro m b
    cases b
    · rw [if_pos bt_f, ob_some, stI_ok (by omega) (by decide), ob_some]; rfl
    · rw [if_neg bt_t, ob_some, stI_ok (by omega) (by decide), ob_some]; rfl
  have fin0 : ∀ (m : Mem), ((if (0 : Int32) = 0 then some (-9 : Int32) else some (-1)).bind fun x8 => (stI 258 m 1 (nI (192 + s)) x8).bind fun mu10 => some mu10) = some (upm m 1 (upd (m 1) (192 + s) (-9))) := fun m => fin m false
  have fin1 : ∀ (m : Mem), ((if (1 : Int32) = 0 then some (-9 : Int32) else some (-1)).bind fun x8 => (stI 258 m 1 (nI (192 + s)) x8).bind fun mu10 => some mu10) = some (upm m 1 (upd (m 1) (192 + s) (-1))) := fun m => fin m true
  have cf : ∀ (x : Option Mem) (F : Mem → Option Mem), ((x.bind fun mu17 => some ((1 : Int32), mu17)).bind fun q => F q.2) = x.bind F := by
    intro x F
    cases x <;> rfl
  cases hb : hF (u 46) s <;> cases hl : hF (u 47) s <;> cases hr : hF (u 48) s
  · have e1 : cfM u s = false := by unfold cfM; rw [hb]; rfl
    have e2 : inM u s = false := by unfold inM; rw [hb, hl, hr]; rfl
    rw [e1, e2]
    exact fin0 v
  · have e1 : cfM u s = false := by unfold cfM; rw [hb]; rfl
    have e2 : inM u s = true := by unfold inM; rw [hb, hl, hr]; rfl
    rw [e1, e2]
    exact fin1 v
  · have e1 : cfM u s = false := by unfold cfM; rw [hb]; rfl
    have e2 : inM u s = true := by unfold inM; rw [hb, hl, hr]; rfl
    rw [e1, e2]
    exact fin1 v
  · have e1 : cfM u s = false := by unfold cfM; rw [hb]; rfl
    have e2 : inM u s = true := by unfold inM; rw [hb, hl, hr]; rfl
    rw [e1, e2]
    exact fin1 v
  · have cl : chgF (u 47) (u 46) s = false := by unfold chgF; rw [hb, hl]; rfl
    have cr : chgF (u 48) (u 46) s = false := by unfold chgF; rw [hb, hr]; rfl
    have e1 : cfM u s = false := by unfold cfM; rw [cl, cr]; simp
    have e2 : inM u s = false := by unfold inM; rw [hb, hl, hr, cl, cr]; rfl
    rw [e1, e2]
    exact fin0 v
  · have cl : chgF (u 47) (u 46) s = false := by unfold chgF; rw [hb, hl]; rfl
    have hc := rIsChanged (x := 2) (o := 2) rfl (by decide) hs rR rB hb hr
    have cr : chgF (u 48) (u 46) s = (othF (u 48) (u 46) s 2 || (othF (u 48) (u 46) s 3 || (othF (u 48) (u 46) s 0 || ncF (u 48) (u 46) (nI s) 16))) := by unfold chgF; rw [hb, hr]; rfl
    rw [← cr] at hc
    have e1 : cfM u s = chgF (u 48) (u 46) s := by unfold cfM; rw [hb, hl, cl]; simp
    have e2 : inM u s = chgF (u 48) (u 46) s := by unfold inM; rw [hb, hl, cl]; simp
    rw [e1, e2]
    show bd2 (((X9_isChanged v 2 (nI s)).bind fun r18 => if b2i r18 = 0 then some (0 : Int32) else some 1).bind fun x14 => if x14 = 0 then some (x14, v) else (X9_conflict v 3 (nI s) (nI s)).bind fun mu17 => some (x14, mu17)) (fun x5 mu6 => (if x5 = 0 then some (-9 : Int32) else some (-1)).bind fun x8 => (stI 258 mu6 1 (nI (192 + s)) x8).bind fun mu10 => some mu10) = _
    rw [hc, ob_some]
    cases chgF (u 48) (u 46) s
    · exact fin0 v
    · show bd2 ((X9_conflict v 3 (nI s) (nI s)).bind fun mu17 => some ((1 : Int32), mu17)) _ = (X9_conflict v 3 (nI s) (nI s)).bind _
      cases X9_conflict v 3 (nI s) (nI s) with
      | none => rfl
      | some m => exact fin1 m
  · have cl : chgF (u 48) (u 46) s = false := by unfold chgF; rw [hb, hr]; rfl
    have hc := rIsChanged (x := 1) (o := 1) rfl (by decide) hs rL rB hb hl
    have cr : chgF (u 47) (u 46) s = (othF (u 47) (u 46) s 2 || (othF (u 47) (u 46) s 3 || (othF (u 47) (u 46) s 0 || ncF (u 47) (u 46) (nI s) 16))) := by unfold chgF; rw [hb, hl]; rfl
    rw [← cr] at hc
    have e1 : cfM u s = chgF (u 47) (u 46) s := by unfold cfM; rw [hb, hr, cl]; simp
    have e2 : inM u s = chgF (u 47) (u 46) s := by unfold inM; rw [hb, hr, cl]; simp
    rw [e1, e2]
    show bd2 (((X9_isChanged v 1 (nI s)).bind fun r18 => if b2i r18 = 0 then some (0 : Int32) else some 1).bind fun x14 => if x14 = 0 then some (x14, v) else (X9_conflict v 3 (nI s) (nI s)).bind fun mu17 => some (x14, mu17)) (fun x5 mu6 => (if x5 = 0 then some (-9 : Int32) else some (-1)).bind fun x8 => (stI 258 mu6 1 (nI (192 + s)) x8).bind fun mu10 => some mu10) = _
    rw [hc, ob_some]
    cases chgF (u 47) (u 46) s
    · exact fin0 v
    · show bd2 ((X9_conflict v 3 (nI s) (nI s)).bind fun mu17 => some ((1 : Int32), mu17)) _ = (X9_conflict v 3 (nI s) (nI s)).bind _
      cases X9_conflict v 3 (nI s) (nI s) with
      | none => rfl
      | some m => exact fin1 m
  · have e1 : cfM u s = false := by unfold cfM; rw [hl, hr]; simp
    have e2 : inM u s = true := by unfold inM; rw [hb, hl, hr]; rfl
    rw [e1, e2]
    exact fin1 v

/-- two loops that go side by side -/
theorem lk (Lx Ly : Nat → Int32 → Mem → Option Mem) (E : Nat) (hE : E < 4000) (J : Nat → Mem → Mem → Prop)
    (hx : ∀ n u, Lx (n + 1) (nI E) u = some u) (hy : ∀ n u, Ly (n + 1) (nI E) u = some u)
    (hs : ∀ n m u v k, k < E → J k u v → ∃ u' v', J (k + 1) u' v' ∧ Lx (n + 1) (nI k) u = Lx n (nI (k + 1)) u' ∧ Ly (m + 1) (nI k) v = Ly m (nI (k + 1)) v') :
    ∀ (k : Nat) (u v : Mem) (n m : Nat), k ≤ E → E - k < n → E - k < m → J k u v → ∃ u' v', Lx n (nI k) u = some u' ∧ Ly m (nI k) v = some v' ∧ J E u' v' := by
  have main : ∀ c k u v n m, k + c = E → c < n → c < m → J k u v → ∃ u' v', Lx n (nI k) u = some u' ∧ Ly m (nI k) v = some v' ∧ J E u' v' := by
    intro c
    induction c with
    | zero =>
      intro k u v n m h1 h2 h3 h4
      obtain ⟨n, rfl⟩ : ∃ n', n = n' + 1 := ⟨n - 1, by omega⟩
      obtain ⟨m, rfl⟩ : ∃ n', m = n' + 1 := ⟨m - 1, by omega⟩
      have e : k = E := by omega
      subst e
      exact ⟨u, v, hx n u, hy m v, h4⟩
    | succ c ih =>
      intro k u v n m h1 h2 h3 h4
      obtain ⟨n, rfl⟩ : ∃ n', n = n' + 1 := ⟨n - 1, by omega⟩
      obtain ⟨m, rfl⟩ : ∃ n', m = n' + 1 := ⟨m - 1, by omega⟩
      obtain ⟨u', v', a1, a2, a3⟩ := hs n m u v k (by omega) h4
      rw [a2, a3]
      exact ih (k + 1) u' v' n m (by omega) (by omega) (by omega) a1
  intro k u v n m h1 h2 h3 h4
  exact main (E - k) k u v n m (by omega) h2 h3 h4
