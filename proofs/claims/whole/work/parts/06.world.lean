/-! ===== the class's cells: 0..24 outlines (outline o of desk d is 3 d + o, the merged one 24), 25..49 their rows, 50..57 desks (desk, before, the five kept, the merger's), 58 the object, 59 history, 60 its row, 61 merger, 62 putBack, 63 keys, 64..67 the conflicts' table, 68..71 the script's table, 72 script, 73 matching, 74 scores, 75 partners, 76 taken, 77 typed, 78 bytes, 79 orders ===== -/
abbrev tyL (cI cZ cD : ClassId) : List (ClassId × FieldType) := [(cI, .int), (cZ, .boolean), (cD, .object "MergedOutline$Desk")]
def lenT (t : Nat) : Nat := if t = 0 then 128 else 48
def eX (A : Nat → Nat) (cI cZ cD : ClassId) (r : Nat → Int32) (i : Nat) : va_E :=
  if i < 25 then .inr (4, [.ref (A (25 + i))])
  else if i < 50 then .inl (cI, 80, .inl r)
  else if i < 58 then .inr (0, [.ref (A (3 * (i - 50))), .ref (A (3 * (i - 50) + 1)), .ref (A (3 * (i - 50) + 2)), .int (r 3), .int (r 4)])
  else match i with
    | 58 => .inr (8, [.ref (A 50), .ref (A 51), .ref (A 59), .ref (A 61), .ref (A 72), .ref (A 73), .ref (A 77), .int (r 7), .int (r 8), .int (r 9)])
    | 59 => .inr (1, [.ref (A 60), .int (r 1), .int (r 2)])
    | 60 => .inl (cD, 5, .inr (.inr (.inr (.inr (fun k => some (A (50 + (2 + k))))))))
    | 61 => .inr (3, [.ref (A 57), .ref (A 24), .ref (A 64), .ref (A 62), .ref (A 63), .int (r 5)])
    | 62 => .inl (cZ, 16, .inl r)
    | 63 => .inl (cI, 16, .inl r)
    | 64 => .inr (6, [.ref (A 65), .ref (A 66), .ref (A 67), .int (r 3)])
    | 65 => .inl (cI, 128, .inl r)
    | 66 => .inl (cI, 128, .inl r)
    | 67 => .inl (cI, 128, .inl r)
    | 68 => .inr (6, [.ref (A 69), .ref (A 70), .ref (A 71), .int (r 3)])
    | 69 => .inl (cI, 48, .inl r)
    | 70 => .inl (cI, 48, .inl r)
    | 71 => .inl (cI, 48, .inl r)
    | 72 => .inr (5, [.ref (A 68)])
    | 73 => .inr (2, [.ref (A 74), .ref (A 75), .ref (A 76)])
    | 74 => .inl (cI, 256, .inl r)
    | 75 => .inl (cI, 16, .inl r)
    | 76 => .inl (cZ, 16, .inl r)
    | 77 => .inr (7, [.ref (A 78), .ref (A 79), .int (r 2), .int (r 3), .int (r 4), .int (r 5), .int (r 6), .int (r 7)])
    | 78 => .inl (cI, 150, .inl r)
    | _ => .inl (cI, 450, .inl r)
abbrev wX (A : Nat → Nat) (cI cZ cD : ClassId) (u : Mem) : va_W := wG (eX A cI cZ cD) 80 A u
section EX
variable {A : Nat → Nat} {cI cZ cD : ClassId} {r : Nat → Int32} {j d t : Nat}
theorem eX_O (h : j < 25) : eX A cI cZ cD r j = .inr (4, [.ref (A (25 + j))]) := by simp [eX, h]
theorem eX_C (h : j < 25) : ∀ r, eX A cI cZ cD r (25 + j) = .inl (cI, 80, .inl r) := by
  intro r
  simp [eX, show 25 + j < 50 by omega]
theorem eX_D (h : d < 8) : eX A cI cZ cD r (50 + d) = .inr (0, [.ref (A (3 * d)), .ref (A (3 * d + 1)), .ref (A (3 * d + 2)), .int (r 3), .int (r 4)]) := by
  simp [eX, show ¬ 50 + d < 25 by omega, show 50 + d < 58 by omega]
theorem eX_T (h : t < 2) : eX A cI cZ cD r (64 + 4 * t) = .inr (6, [.ref (A (64 + 4 * t + 1)), .ref (A (64 + 4 * t + 2)), .ref (A (64 + 4 * t + 3)), .int (r 3)]) := by
  rcases (show t = 0 ∨ t = 1 by omega) with rfl | rfl <;> rfl
theorem eX_T1 (h : t < 2) : ∀ r, eX A cI cZ cD r (64 + 4 * t + 1) = .inl (cI, lenT t, .inl r) := by
  rcases (show t = 0 ∨ t = 1 by omega) with rfl | rfl <;> exact fun _ => rfl
theorem eX_T2 (h : t < 2) : ∀ r, eX A cI cZ cD r (64 + 4 * t + 2) = .inl (cI, lenT t, .inl r) := by
  rcases (show t = 0 ∨ t = 1 by omega) with rfl | rfl <;> exact fun _ => rfl
theorem eX_T3 (h : t < 2) : ∀ r, eX A cI cZ cD r (64 + 4 * t + 3) = .inl (cI, lenT t, .inl r) := by
  rcases (show t = 0 ∨ t = 1 by omega) with rfl | rfl <;> exact fun _ => rfl
theorem eX_58 : eX A cI cZ cD r 58 = .inr (8, [.ref (A 50), .ref (A 51), .ref (A 59), .ref (A 61), .ref (A 72), .ref (A 73), .ref (A 77), .int (r 7), .int (r 8), .int (r 9)]) := rfl
theorem eX_59 : eX A cI cZ cD r 59 = .inr (1, [.ref (A 60), .int (r 1), .int (r 2)]) := rfl
theorem eX_60 : ∀ r, eX A cI cZ cD r 60 = .inl (cD, 5, .inr (.inr (.inr (.inr (fun k => some (A (50 + (2 + k)))))))) := fun _ => rfl
theorem eX_61 : eX A cI cZ cD r 61 = .inr (3, [.ref (A (50 + 7)), .ref (A 24), .ref (A 64), .ref (A 62), .ref (A 63), .int (r 5)]) := rfl
theorem eX_62 : ∀ r, eX A cI cZ cD r 62 = .inl (cZ, 16, .inl r) := fun _ => rfl
theorem eX_63 : ∀ r, eX A cI cZ cD r 63 = .inl (cI, 16, .inl r) := fun _ => rfl
theorem eX_72 : eX A cI cZ cD r 72 = .inr (5, [.ref (A 68)]) := rfl
theorem eX_73 : eX A cI cZ cD r 73 = .inr (2, [.ref (A 74), .ref (A 75), .ref (A 76)]) := rfl
theorem eX_74 : ∀ r, eX A cI cZ cD r 74 = .inl (cI, 256, .inl r) := fun _ => rfl
theorem eX_75 : ∀ r, eX A cI cZ cD r 75 = .inl (cI, 16, .inl r) := fun _ => rfl
theorem eX_76 : ∀ r, eX A cI cZ cD r 76 = .inl (cZ, 16, .inl r) := fun _ => rfl
theorem eX_77 : eX A cI cZ cD r 77 = .inr (7, [.ref (A 78), .ref (A 79), .int (r 2), .int (r 3), .int (r 4), .int (r 5), .int (r 6), .int (r 7)]) := rfl
theorem eX_78 : ∀ r, eX A cI cZ cD r 78 = .inl (cI, 150, .inl r) := fun _ => rfl
theorem eX_79 : ∀ r, eX A cI cZ cD r 79 = .inl (cI, 450, .inl r) := fun _ => rfl
theorem OKX {u : Mem} (h : j < 25) : OK (wX A cI cZ cD u) j (25 + j) (A j) (A (25 + j)) := ⟨by rw [wG_at (by omega), eX_O h], by simp [wX, wG]; omega, by omega⟩
theorem wO_X {u : Mem} {f : Nat → Int32} (h : j < 25) : wO (wX A cI cZ cD u) (25 + j) cI (A (25 + j)) f = wX A cI cZ cD (upm u (25 + j) f) := by
  rw [wO, ← eX_C (A := A) (cI := cI) (cZ := cZ) (cD := cD) h f, wG_set (by omega)]
end EX
/-- a method of an outline, in the class's world -/
theorem Ct.toXr {l : Launch} {y : MethodName} {cc : ByteArray} {maxL : Nat} {ret : Option FieldType} {rm : Room} {D : va_G} {tys : List (ClassId × FieldType)} {av : List Value} {v : Option Value} {A : Nat → Nat} {cI cZ cD : ClassId} {u : Mem} {j : Nat} (hj : j < 25)
    (h : Ct l y cc maxL ret rm D tys av (wO (wX A cI cZ cD u) (25 + j) cI (A (25 + j)) (u (25 + j))) v (wO (wX A cI cZ cD u) (25 + j) cI (A (25 + j)) (u (25 + j)))) : Ct l y cc maxL ret rm D tys av (wX A cI cZ cD u) v (wX A cI cZ cD u) := by
  rw [wO_X hj, upm_id] at h
  exact h
theorem Ct.toXw {l : Launch} {y : MethodName} {cc : ByteArray} {maxL : Nat} {ret : Option FieldType} {rm : Room} {D : va_G} {tys : List (ClassId × FieldType)} {av : List Value} {v : Option Value} {A : Nat → Nat} {cI cZ cD : ClassId} {u u1 : Mem} {j : Nat} {f1 : Nat → Int32} (hj : j < 25) (hu : upm u (25 + j) f1 = u1)
    (h : Ct l y cc maxL ret rm D tys av (wO (wX A cI cZ cD u) (25 + j) cI (A (25 + j)) (u (25 + j))) v (wO (wX A cI cZ cD u) (25 + j) cI (A (25 + j)) f1)) : Ct l y cc maxL ret rm D tys av (wX A cI cZ cD u) v (wX A cI cZ cD u1) := by
  rw [wO_X hj, wO_X hj, upm_id, hu] at h
  exact h
def stO (u : Mem) (i : Nat) (x : Option (Nat → Int32)) : Option Mem := x.bind fun f => some (upm u i f)
def stO2 {α : Type} (u : Mem) (i : Nat) (x : Option (α × (Nat → Int32))) : Option (α × Mem) := x.bind fun q => some (q.1, upm u i q.2)
theorem stO_some {u u1 : Mem} {i : Nat} {x : Option (Nat → Int32)} (h : stO u i x = some u1) : ∃ f, x = some f ∧ upm u i f = u1 := by
  obtain ⟨f, h1, h2⟩ := Option.bind_eq_some_iff.mp h
  exact ⟨f, h1, Option.some.inj h2⟩
theorem stO2_some {α : Type} {u u1 : Mem} {i : Nat} {x : Option (α × (Nat → Int32))} {r : α} (h : stO2 u i x = some (r, u1)) : ∃ f, x = some (r, f) ∧ upm u i f = u1 := by
  obtain ⟨⟨a, f⟩, h1, h2⟩ := Option.bind_eq_some_iff.mp h
  cases h2
  exact ⟨f, h1, rfl⟩
/-- Outline.copyFrom, as the machine does it -/
def cpO (u : Mem) (j k : Nat) : Option Mem := some (upm u (25 + j) (va_cpy (u (25 + k)) (u (25 + j)) 0 0 80))
def vD (A : Nat → Nat) (r : Option Nat) : Value := match r with
  | none => .null
  | some d => .ref (A (50 + d))
/-! ===== the reference's cells: 0 the object, 1 now, 2 aside, 3 before, 4 past, 5 refusals, 6 text, 7 orderLetter, 8 orderFrom, 9 numbers, 10 found, 11 walked, 12 waiting, 13 steps, 14 matchOf ===== -/
def lenY (i : Nat) : Nat := match i with
  | 1 => 258 | 2 => 258 | 3 => 258 | 4 => 1290 | 5 => 3 | 6 => 150 | 7 => 150 | 8 => 151 | 9 => 150 | 10 => 480 | 11 => 16 | 12 => 16 | 13 => 96 | _ => 16
def eY (A : Nat → Nat) (cI : ClassId) (r : Nat → Int32) (i : Nat) : va_E := match i with
  | 0 => .inr (9, [.ref (A 1), .ref (A 2), .ref (A 3), .ref (A 4), .int (r 4), .ref (A 5), .ref (A 6), .int (r 7), .ref (A 7), .ref (A 8), .ref (A 9), .int (r 11), .ref (A 10), .int (r 13), .ref (A 11), .ref (A 12), .ref (A 13), .int (r 17), .ref (A 14), .int (r 19), .int (r 20), .int (r 21)])
  | _ + 1 => .inl (cI, lenY i, .inl r)
abbrev wY (A : Nat → Nat) (cI : ClassId) (u : Mem) : va_W := wG (eY A cI) 15 A u
section EY
variable {A : Nat → Nat} {cI : ClassId} {r : Nat → Int32} {i : Nat}
theorem eY_0 : eY A cI r 0 = .inr (9, [.ref (A 1), .ref (A 2), .ref (A 3), .ref (A 4), .int (r 4), .ref (A 5), .ref (A 6), .int (r 7), .ref (A 7), .ref (A 8), .ref (A 9), .int (r 11), .ref (A 10), .int (r 13), .ref (A 11), .ref (A 12), .ref (A 13), .int (r 17), .ref (A 14), .int (r 19), .int (r 20), .int (r 21)]) := rfl
theorem eY_a (h : 1 ≤ i) : ∀ r, eY A cI r i = .inl (cI, lenY i, .inl r) := by
  intro r
  cases i with
  | zero => omega
  | succ k => rfl
theorem eY_1 : ∀ r, eY A cI r 1 = .inl (cI, 258, .inl r) := fun _ => rfl
theorem eY_2 : ∀ r, eY A cI r 2 = .inl (cI, 258, .inl r) := fun _ => rfl
theorem eY_3 : ∀ r, eY A cI r 3 = .inl (cI, 258, .inl r) := fun _ => rfl
theorem eY_4 : ∀ r, eY A cI r 4 = .inl (cI, 1290, .inl r) := fun _ => rfl
theorem eY_5 : ∀ r, eY A cI r 5 = .inl (cI, 3, .inl r) := fun _ => rfl
theorem eY_6 : ∀ r, eY A cI r 6 = .inl (cI, 150, .inl r) := fun _ => rfl
theorem eY_7 : ∀ r, eY A cI r 7 = .inl (cI, 150, .inl r) := fun _ => rfl
theorem eY_8 : ∀ r, eY A cI r 8 = .inl (cI, 151, .inl r) := fun _ => rfl
theorem eY_9 : ∀ r, eY A cI r 9 = .inl (cI, 150, .inl r) := fun _ => rfl
theorem eY_10 : ∀ r, eY A cI r 10 = .inl (cI, 480, .inl r) := fun _ => rfl
theorem eY_11 : ∀ r, eY A cI r 11 = .inl (cI, 16, .inl r) := fun _ => rfl
theorem eY_12 : ∀ r, eY A cI r 12 = .inl (cI, 16, .inl r) := fun _ => rfl
theorem eY_13 : ∀ r, eY A cI r 13 = .inl (cI, 96, .inl r) := fun _ => rfl
theorem eY_14 : ∀ r, eY A cI r 14 = .inl (cI, 16, .inl r) := fun _ => rfl
end EY
section XS
variable {p : Program} {l : Launch} {e : Env} {R : Room} {s : State} {m : MethodId} {args : Array Value} {below : List Frame} {meth : Method} {c : Code} {H : Heap} {locs : List Loc} {cells slots : Nat} {Q : State → Prop}
variable {cc : ByteArray} {pc : Nat} {ls : Array Slot} {rest : List Value}
/-- a table switch that goes to its last way -/
theorem xs_dflt (hexec : p.tables.exec = Jvm.exec) (hb : c.code = cc) {dflt lo hi : Int} {offs : Array Int} {len : Nat} {x : Int32} {tgt : Nat} (hdg : decode cc pc = .ok (.tableswitch dflt lo hi offs, len)) (h : ∀ j : Nat, j < offs.size → offs[j]? = some dflt ∨ ¬ x.toInt = lo + j) (hz : hi < lo + offs.size) (ht : (pc : Int) + dflt = (tgt : Int))
    (k : W p l e R s m args below meth c H locs cells slots Q (F0 m tgt ls rest)) : W p l e R s m args below meth c H locs cells slots Q (F0 m pc ls (.int x :: rest)) := by
  by_cases h1 : x.toInt < lo
  · exact lv_tableOut hexec hb hdg (Or.inl h1) ht k
  · by_cases h2 : hi < x.toInt
    · exact lv_tableOut hexec hb hdg (Or.inr h2) ht k
    · rcases h (x.toInt - lo).toNat (by omega) with h3 | h3
      · exact lv_tableIn hexec hb hdg h1 h2 h3 ht k
      · exact absurd (by omega) h3
end XS
