/-! ===== the new object's cells, laid as the class's world (printed by wip/whole/mkrear.py) ===== -/
theorem xI.map {D : va_G} {A : Nat → Prop} {H0 H : Heap} {locs : List Loc} {ws ws' : va_W} (g : Nat → Nat) (h : ∀ k q, ws'[k]? = some q → ws[g k]? = some q) (hg : ∀ i j, i < ws'.length → j < ws'.length → g i = g j → i = j) (hI : xI D A H0 ws H locs) : xI D A H0 ws' H locs := by
  have lt : ∀ (i : Nat) (x : Nat × va_E), ws'[i]? = some x → i < ws'.length := fun i x hx => (List.getElem?_eq_some_iff.mp hx).1
  refine ⟨fun k q hk => hI.1 _ q (h k q hk), ⟨fun i j x y hx hy hxy => ?_, fun k q hk => hI.2.1.2 _ q (h k q hk)⟩, hI.2.2⟩
  exact hg i j (lt i x hx) (lt j y hy) (hI.2.1.1 _ _ x y (h i x hx) (h j y hy) hxy)
theorem xI.comm {D : va_G} {A : Nat → Prop} {H0 H : Heap} {locs : List Loc} {a b : va_W} (hI : xI D A H0 (a ++ b) H locs) : xI D A H0 (b ++ a) H locs := by
  refine hI.map (fun k => if k < b.length then a.length + k else k - b.length) (fun k q hk => ?_) (fun i j hi hj hij => ?_)
  · by_cases e : k < b.length
    · rw [List.getElem?_append_left e] at hk
      show (a ++ b)[if k < b.length then a.length + k else k - b.length]? = some q
      rw [if_pos e, List.getElem?_append_right (by omega), show a.length + k - a.length = k by omega]
      exact hk
    · rw [List.getElem?_append_right (by omega)] at hk
      have hl := (List.getElem?_eq_some_iff.mp hk).1
      show (a ++ b)[if k < b.length then a.length + k else k - b.length]? = some q
      rw [if_neg e, List.getElem?_append_left hl]
      exact hk
  · rw [List.length_append] at hi hj
    have hij : (if i < b.length then a.length + i else i - b.length) = (if j < b.length then a.length + j else j - b.length) := hij
    split at hij <;> split at hij <;> omega
def u00 : Mem := fun k => if k < 25 then (fun _ => 0) else if k < 50 then f00 else if k < 58 then (fun _ => 1) else if k = 61 then (fun _ => 1) else (fun _ => 0)
def mpXl : List Nat := [2, 4, 6, 9, 11, 13, 18, 20, 22, 25, 27, 29, 32, 34, 36, 39, 41, 43, 46, 48, 50, 54, 56, 58, 60, 3, 5, 7, 10, 12, 14, 19, 21, 23, 26, 28, 30, 33, 35, 37, 40, 42, 44, 47, 49, 51, 55, 57, 59, 61, 1, 8, 17, 24, 31, 38, 45, 53, 0, 15, 16, 52, 66, 67, 62, 63, 64, 65, 69, 70, 71, 72, 68, 73, 74, 75, 76, 77, 78, 79]
def mpX (k : Nat) : Nat := mpXl.getD k 0
def adX (q : Nat) (B : Nat → Nat) (k : Nat) : Nat := match mpX k with
  | 0 => q
  | n + 1 => B n
set_option maxRecDepth 100000 in
theorem mpX_inj : ∀ i, i < 80 → ∀ j, j < 80 → mpX i = mpX j → i = j := by decide +kernel
section RA
variable {cI cZ cD : ClassId} {q : Nat} {B : Nat → Nat}
def wAl2 (cI cZ cD : ClassId) (q : Nat) (B : Nat → Nat) : va_W := (wAll cI cZ cD q B).set 16 (B 15, .inl (cD, 5, .inr (.inr (.inr (.inr (fun k => some (adX q B (50 + (2 + k)))))))))
theorem ra_0 : (wAl2 cI cZ cD q B)[2]? = some (adX q B 0, eX (adX q B) cI cZ cD (u00 0) 0) := rfl
theorem ra_1 : (wAl2 cI cZ cD q B)[4]? = some (adX q B 1, eX (adX q B) cI cZ cD (u00 1) 1) := rfl
theorem ra_2 : (wAl2 cI cZ cD q B)[6]? = some (adX q B 2, eX (adX q B) cI cZ cD (u00 2) 2) := rfl
theorem ra_3 : (wAl2 cI cZ cD q B)[9]? = some (adX q B 3, eX (adX q B) cI cZ cD (u00 3) 3) := rfl
theorem ra_4 : (wAl2 cI cZ cD q B)[11]? = some (adX q B 4, eX (adX q B) cI cZ cD (u00 4) 4) := rfl
theorem ra_5 : (wAl2 cI cZ cD q B)[13]? = some (adX q B 5, eX (adX q B) cI cZ cD (u00 5) 5) := rfl
theorem ra_6 : (wAl2 cI cZ cD q B)[18]? = some (adX q B 6, eX (adX q B) cI cZ cD (u00 6) 6) := rfl
theorem ra_7 : (wAl2 cI cZ cD q B)[20]? = some (adX q B 7, eX (adX q B) cI cZ cD (u00 7) 7) := rfl
theorem ra_8 : (wAl2 cI cZ cD q B)[22]? = some (adX q B 8, eX (adX q B) cI cZ cD (u00 8) 8) := rfl
theorem ra_9 : (wAl2 cI cZ cD q B)[25]? = some (adX q B 9, eX (adX q B) cI cZ cD (u00 9) 9) := rfl
theorem ra_10 : (wAl2 cI cZ cD q B)[27]? = some (adX q B 10, eX (adX q B) cI cZ cD (u00 10) 10) := rfl
theorem ra_11 : (wAl2 cI cZ cD q B)[29]? = some (adX q B 11, eX (adX q B) cI cZ cD (u00 11) 11) := rfl
theorem ra_12 : (wAl2 cI cZ cD q B)[32]? = some (adX q B 12, eX (adX q B) cI cZ cD (u00 12) 12) := rfl
theorem ra_13 : (wAl2 cI cZ cD q B)[34]? = some (adX q B 13, eX (adX q B) cI cZ cD (u00 13) 13) := rfl
theorem ra_14 : (wAl2 cI cZ cD q B)[36]? = some (adX q B 14, eX (adX q B) cI cZ cD (u00 14) 14) := rfl
theorem ra_15 : (wAl2 cI cZ cD q B)[39]? = some (adX q B 15, eX (adX q B) cI cZ cD (u00 15) 15) := rfl
theorem ra_16 : (wAl2 cI cZ cD q B)[41]? = some (adX q B 16, eX (adX q B) cI cZ cD (u00 16) 16) := rfl
theorem ra_17 : (wAl2 cI cZ cD q B)[43]? = some (adX q B 17, eX (adX q B) cI cZ cD (u00 17) 17) := rfl
theorem ra_18 : (wAl2 cI cZ cD q B)[46]? = some (adX q B 18, eX (adX q B) cI cZ cD (u00 18) 18) := rfl
theorem ra_19 : (wAl2 cI cZ cD q B)[48]? = some (adX q B 19, eX (adX q B) cI cZ cD (u00 19) 19) := rfl
theorem ra_20 : (wAl2 cI cZ cD q B)[50]? = some (adX q B 20, eX (adX q B) cI cZ cD (u00 20) 20) := rfl
theorem ra_21 : (wAl2 cI cZ cD q B)[54]? = some (adX q B 21, eX (adX q B) cI cZ cD (u00 21) 21) := rfl
theorem ra_22 : (wAl2 cI cZ cD q B)[56]? = some (adX q B 22, eX (adX q B) cI cZ cD (u00 22) 22) := rfl
theorem ra_23 : (wAl2 cI cZ cD q B)[58]? = some (adX q B 23, eX (adX q B) cI cZ cD (u00 23) 23) := rfl
theorem ra_24 : (wAl2 cI cZ cD q B)[60]? = some (adX q B 24, eX (adX q B) cI cZ cD (u00 24) 24) := rfl
theorem ra_25 : (wAl2 cI cZ cD q B)[3]? = some (adX q B 25, eX (adX q B) cI cZ cD (u00 25) 25) := rfl
theorem ra_26 : (wAl2 cI cZ cD q B)[5]? = some (adX q B 26, eX (adX q B) cI cZ cD (u00 26) 26) := rfl
theorem ra_27 : (wAl2 cI cZ cD q B)[7]? = some (adX q B 27, eX (adX q B) cI cZ cD (u00 27) 27) := rfl
theorem ra_28 : (wAl2 cI cZ cD q B)[10]? = some (adX q B 28, eX (adX q B) cI cZ cD (u00 28) 28) := rfl
theorem ra_29 : (wAl2 cI cZ cD q B)[12]? = some (adX q B 29, eX (adX q B) cI cZ cD (u00 29) 29) := rfl
theorem ra_30 : (wAl2 cI cZ cD q B)[14]? = some (adX q B 30, eX (adX q B) cI cZ cD (u00 30) 30) := rfl
theorem ra_31 : (wAl2 cI cZ cD q B)[19]? = some (adX q B 31, eX (adX q B) cI cZ cD (u00 31) 31) := rfl
theorem ra_32 : (wAl2 cI cZ cD q B)[21]? = some (adX q B 32, eX (adX q B) cI cZ cD (u00 32) 32) := rfl
theorem ra_33 : (wAl2 cI cZ cD q B)[23]? = some (adX q B 33, eX (adX q B) cI cZ cD (u00 33) 33) := rfl
theorem ra_34 : (wAl2 cI cZ cD q B)[26]? = some (adX q B 34, eX (adX q B) cI cZ cD (u00 34) 34) := rfl
theorem ra_35 : (wAl2 cI cZ cD q B)[28]? = some (adX q B 35, eX (adX q B) cI cZ cD (u00 35) 35) := rfl
theorem ra_36 : (wAl2 cI cZ cD q B)[30]? = some (adX q B 36, eX (adX q B) cI cZ cD (u00 36) 36) := rfl
theorem ra_37 : (wAl2 cI cZ cD q B)[33]? = some (adX q B 37, eX (adX q B) cI cZ cD (u00 37) 37) := rfl
theorem ra_38 : (wAl2 cI cZ cD q B)[35]? = some (adX q B 38, eX (adX q B) cI cZ cD (u00 38) 38) := rfl
theorem ra_39 : (wAl2 cI cZ cD q B)[37]? = some (adX q B 39, eX (adX q B) cI cZ cD (u00 39) 39) := rfl
theorem ra_40 : (wAl2 cI cZ cD q B)[40]? = some (adX q B 40, eX (adX q B) cI cZ cD (u00 40) 40) := rfl
theorem ra_41 : (wAl2 cI cZ cD q B)[42]? = some (adX q B 41, eX (adX q B) cI cZ cD (u00 41) 41) := rfl
theorem ra_42 : (wAl2 cI cZ cD q B)[44]? = some (adX q B 42, eX (adX q B) cI cZ cD (u00 42) 42) := rfl
theorem ra_43 : (wAl2 cI cZ cD q B)[47]? = some (adX q B 43, eX (adX q B) cI cZ cD (u00 43) 43) := rfl
theorem ra_44 : (wAl2 cI cZ cD q B)[49]? = some (adX q B 44, eX (adX q B) cI cZ cD (u00 44) 44) := rfl
theorem ra_45 : (wAl2 cI cZ cD q B)[51]? = some (adX q B 45, eX (adX q B) cI cZ cD (u00 45) 45) := rfl
theorem ra_46 : (wAl2 cI cZ cD q B)[55]? = some (adX q B 46, eX (adX q B) cI cZ cD (u00 46) 46) := rfl
theorem ra_47 : (wAl2 cI cZ cD q B)[57]? = some (adX q B 47, eX (adX q B) cI cZ cD (u00 47) 47) := rfl
theorem ra_48 : (wAl2 cI cZ cD q B)[59]? = some (adX q B 48, eX (adX q B) cI cZ cD (u00 48) 48) := rfl
theorem ra_49 : (wAl2 cI cZ cD q B)[61]? = some (adX q B 49, eX (adX q B) cI cZ cD (u00 49) 49) := rfl
theorem ra_50 : (wAl2 cI cZ cD q B)[1]? = some (adX q B 50, eX (adX q B) cI cZ cD (u00 50) 50) := rfl
theorem ra_51 : (wAl2 cI cZ cD q B)[8]? = some (adX q B 51, eX (adX q B) cI cZ cD (u00 51) 51) := rfl
theorem ra_52 : (wAl2 cI cZ cD q B)[17]? = some (adX q B 52, eX (adX q B) cI cZ cD (u00 52) 52) := rfl
theorem ra_53 : (wAl2 cI cZ cD q B)[24]? = some (adX q B 53, eX (adX q B) cI cZ cD (u00 53) 53) := rfl
theorem ra_54 : (wAl2 cI cZ cD q B)[31]? = some (adX q B 54, eX (adX q B) cI cZ cD (u00 54) 54) := rfl
theorem ra_55 : (wAl2 cI cZ cD q B)[38]? = some (adX q B 55, eX (adX q B) cI cZ cD (u00 55) 55) := rfl
theorem ra_56 : (wAl2 cI cZ cD q B)[45]? = some (adX q B 56, eX (adX q B) cI cZ cD (u00 56) 56) := rfl
theorem ra_57 : (wAl2 cI cZ cD q B)[53]? = some (adX q B 57, eX (adX q B) cI cZ cD (u00 57) 57) := rfl
theorem ra_58 : (wAl2 cI cZ cD q B)[0]? = some (adX q B 58, eX (adX q B) cI cZ cD (u00 58) 58) := rfl
theorem ra_59 : (wAl2 cI cZ cD q B)[15]? = some (adX q B 59, eX (adX q B) cI cZ cD (u00 59) 59) := rfl
theorem ra_60 : (wAl2 cI cZ cD q B)[16]? = some (adX q B 60, eX (adX q B) cI cZ cD (u00 60) 60) := rfl
theorem ra_61 : (wAl2 cI cZ cD q B)[52]? = some (adX q B 61, eX (adX q B) cI cZ cD (u00 61) 61) := rfl
theorem ra_62 : (wAl2 cI cZ cD q B)[66]? = some (adX q B 62, eX (adX q B) cI cZ cD (u00 62) 62) := rfl
theorem ra_63 : (wAl2 cI cZ cD q B)[67]? = some (adX q B 63, eX (adX q B) cI cZ cD (u00 63) 63) := rfl
theorem ra_64 : (wAl2 cI cZ cD q B)[62]? = some (adX q B 64, eX (adX q B) cI cZ cD (u00 64) 64) := rfl
theorem ra_65 : (wAl2 cI cZ cD q B)[63]? = some (adX q B 65, eX (adX q B) cI cZ cD (u00 65) 65) := rfl
theorem ra_66 : (wAl2 cI cZ cD q B)[64]? = some (adX q B 66, eX (adX q B) cI cZ cD (u00 66) 66) := rfl
theorem ra_67 : (wAl2 cI cZ cD q B)[65]? = some (adX q B 67, eX (adX q B) cI cZ cD (u00 67) 67) := rfl
theorem ra_68 : (wAl2 cI cZ cD q B)[69]? = some (adX q B 68, eX (adX q B) cI cZ cD (u00 68) 68) := rfl
theorem ra_69 : (wAl2 cI cZ cD q B)[70]? = some (adX q B 69, eX (adX q B) cI cZ cD (u00 69) 69) := rfl
theorem ra_70 : (wAl2 cI cZ cD q B)[71]? = some (adX q B 70, eX (adX q B) cI cZ cD (u00 70) 70) := rfl
theorem ra_71 : (wAl2 cI cZ cD q B)[72]? = some (adX q B 71, eX (adX q B) cI cZ cD (u00 71) 71) := rfl
theorem ra_72 : (wAl2 cI cZ cD q B)[68]? = some (adX q B 72, eX (adX q B) cI cZ cD (u00 72) 72) := rfl
theorem ra_73 : (wAl2 cI cZ cD q B)[73]? = some (adX q B 73, eX (adX q B) cI cZ cD (u00 73) 73) := rfl
theorem ra_74 : (wAl2 cI cZ cD q B)[74]? = some (adX q B 74, eX (adX q B) cI cZ cD (u00 74) 74) := rfl
theorem ra_75 : (wAl2 cI cZ cD q B)[75]? = some (adX q B 75, eX (adX q B) cI cZ cD (u00 75) 75) := rfl
theorem ra_76 : (wAl2 cI cZ cD q B)[76]? = some (adX q B 76, eX (adX q B) cI cZ cD (u00 76) 76) := rfl
theorem ra_77 : (wAl2 cI cZ cD q B)[77]? = some (adX q B 77, eX (adX q B) cI cZ cD (u00 77) 77) := rfl
theorem ra_78 : (wAl2 cI cZ cD q B)[78]? = some (adX q B 78, eX (adX q B) cI cZ cD (u00 78) 78) := rfl
theorem ra_79 : (wAl2 cI cZ cD q B)[79]? = some (adX q B 79, eX (adX q B) cI cZ cD (u00 79) 79) := rfl
theorem ra_all (k : Nat) (h : k < 80) : (wAl2 cI cZ cD q B)[mpX k]? = some (adX q B k, eX (adX q B) cI cZ cD (u00 k) k) := match k, h with
  | 0, _ => ra_0
  | 1, _ => ra_1
  | 2, _ => ra_2
  | 3, _ => ra_3
  | 4, _ => ra_4
  | 5, _ => ra_5
  | 6, _ => ra_6
  | 7, _ => ra_7
  | 8, _ => ra_8
  | 9, _ => ra_9
  | 10, _ => ra_10
  | 11, _ => ra_11
  | 12, _ => ra_12
  | 13, _ => ra_13
  | 14, _ => ra_14
  | 15, _ => ra_15
  | 16, _ => ra_16
  | 17, _ => ra_17
  | 18, _ => ra_18
  | 19, _ => ra_19
  | 20, _ => ra_20
  | 21, _ => ra_21
  | 22, _ => ra_22
  | 23, _ => ra_23
  | 24, _ => ra_24
  | 25, _ => ra_25
  | 26, _ => ra_26
  | 27, _ => ra_27
  | 28, _ => ra_28
  | 29, _ => ra_29
  | 30, _ => ra_30
  | 31, _ => ra_31
  | 32, _ => ra_32
  | 33, _ => ra_33
  | 34, _ => ra_34
  | 35, _ => ra_35
  | 36, _ => ra_36
  | 37, _ => ra_37
  | 38, _ => ra_38
  | 39, _ => ra_39
  | 40, _ => ra_40
  | 41, _ => ra_41
  | 42, _ => ra_42
  | 43, _ => ra_43
  | 44, _ => ra_44
  | 45, _ => ra_45
  | 46, _ => ra_46
  | 47, _ => ra_47
  | 48, _ => ra_48
  | 49, _ => ra_49
  | 50, _ => ra_50
  | 51, _ => ra_51
  | 52, _ => ra_52
  | 53, _ => ra_53
  | 54, _ => ra_54
  | 55, _ => ra_55
  | 56, _ => ra_56
  | 57, _ => ra_57
  | 58, _ => ra_58
  | 59, _ => ra_59
  | 60, _ => ra_60
  | 61, _ => ra_61
  | 62, _ => ra_62
  | 63, _ => ra_63
  | 64, _ => ra_64
  | 65, _ => ra_65
  | 66, _ => ra_66
  | 67, _ => ra_67
  | 68, _ => ra_68
  | 69, _ => ra_69
  | 70, _ => ra_70
  | 71, _ => ra_71
  | 72, _ => ra_72
  | 73, _ => ra_73
  | 74, _ => ra_74
  | 75, _ => ra_75
  | 76, _ => ra_76
  | 77, _ => ra_77
  | 78, _ => ra_78
  | 79, _ => ra_79
  | n + 80, h => absurd h (by omega)
theorem made {D : va_G} {A : Nat → Prop} {H0 H : Heap} {locs : List Loc} (hI : xI D A H0 (wAll cI cZ cD q B) H locs) : xI D A H0 (wX (adX q B) cI cZ cD u00) H locs := by
  have hI : xI D A H0 (wAl2 cI cZ cD q B) H locs := hI.swap (k := 16) (a := B 15) rfl (fun h => by
    show H[B 15]? = some (vp_cell cD (5, .inr (.inr (.inr (.inr _)))))
    rw [vp_cell_q]
    have h : H[B 15]? = some (vp_cell cD (5, .inr (.inr (.inr (.inr _))))) := h
    rw [vp_cell_q] at h
    rw [h]
    exact congrArg some (arrV_5 rfl rfl rfl rfl rfl))
  have hlen : (wX (adX q B) cI cZ cD u00).length = 80 := by simp [wX, wG]
  refine hI.map mpX (fun k x hk => ?_) (fun i j hi hj h => mpX_inj i (by omega) j (by omega) h)
  have hl := (List.getElem?_eq_some_iff.mp hk).1
  rw [hlen] at hl
  rw [wG_at hl] at hk
  rw [ra_all k hl]
  exact hk
end RA
