/-! ===== PHASE A: the maker of the reference (printed by wip/whole/mkmodel.py) ===== -/
def fN (o s : Nat) : Nat → Int32 := fun i => if i / 64 < 4 ∧ i % 64 < 16 ∧ (i / 64 < o ∨ (i / 64 = o ∧ i % 64 < s)) then (if i % 64 = 0 then -1 else -9) else 0
theorem fN_step {o s : Nat} (ho : o < 4) (hs : s < 16) : upd (fN o s) (64 * o + s) (if s = 0 then -1 else -9) = fN o (s + 1) := by
  funext i
  by_cases e : i = 64 * o + s
  · subst e
    have h1 : (64 * o + s) / 64 = o := by omega
    have h2 : (64 * o + s) % 64 = s := by omega
    rw [upd_s, fN, h1, h2, if_pos (show o < 4 ∧ s < 16 ∧ (o < o ∨ o = o ∧ s < s + 1) by omega)]
  · rw [upd_n _ _ e, fN, fN]
    have : (i / 64 < 4 ∧ i % 64 < 16 ∧ (i / 64 < o ∨ (i / 64 = o ∧ i % 64 < s))) = (i / 64 < 4 ∧ i % 64 < 16 ∧ (i / 64 < o ∨ (i / 64 = o ∧ i % 64 < s + 1))) := propext (by omega)
    simp only [this]
theorem fN_row (o : Nat) : fN o 16 = fN (o + 1) 0 := by
  funext i
  rw [fN, fN]
  have : (i / 64 < 4 ∧ i % 64 < 16 ∧ (i / 64 < o ∨ (i / 64 = o ∧ i % 64 < 16))) = (i / 64 < 4 ∧ i % 64 < 16 ∧ (i / 64 < o + 1 ∨ (i / 64 = o + 1 ∧ i % 64 < 0))) := propext (by omega)
  simp only [this]
theorem fN_0 : fN 0 0 = fun _ => 0 := by
  funext i
  simp [fN]
def gN : Nat → Int32 := upd (upd (fN 4 0) 256 1) 257 1
def v00 (f : Nat → Int32) : Mem := fun k => if k = 1 then f else fun _ => 0
theorem v00_1 (f : Nat → Int32) : v00 f 1 = f := rfl
theorem v00_n (f : Nat → Int32) {k : Nat} (h : k ≠ 1) : v00 f k = fun _ => 0 := by simp [v00, h]
theorem v00_up (f g : Nat → Int32) : upm (v00 f) 1 g = v00 g := by
  funext k
  by_cases e : k = 1
  · subst e; rw [upm_same, v00_1]
  · rw [upm_ne _ _ e, v00_n _ e, v00_n _ e]
section XY
variable {p : Program} {l : Launch} {e : Env} {R : Room} {s : State} {m : MethodId} {args : Array Value} {below : List Frame} {meth : Method} {c : Code} {H : Heap} {locs : List Loc} {cells slots : Nat} {Q : State → Prop}
variable {cc : ByteArray} {pc : Nat} {ls : Array Slot} {rest : List Value} {D : va_G} {A : Nat → Prop} {tys : List (ClassId × FieldType)} {H0 : Heap} {B : Nat → Nat} {cI cZ cD : ClassId} {f f1 : Nat → Int32}
theorem xy_get (hx : p.tables.exec = Jvm.exec) (hb : c.code = cc) (hown : s.vm.findClass RX9 = some m.cls) (hG : G D tys s) (hI : xI D A H0 (wY B cI (v00 f)) H locs) (hdg : decode cc pc = .ok (.getfield 7, 3))
    (kk : W p l e R s m args below meth c H locs cells slots Q (F0 m (pc + 3) ls (.ref (B 1) :: rest))) : W p l e R s m args below meth c H locs cells slots Q (F0 m pc ls (.ref (B 0) :: rest)) :=
  va_get (Ts := tb) (C := RX9) (T := TX9) (N := 22) (own := RX9) hx hb (fun w h => hG.2 w h args) inX9 hown hG.1 hI.1 0 (wG_at (by omega)) rfl 0 (by decide) (hG.2 _ kf_X9_7 args) (fun _ h => h) rfl hdg kk
theorem xy_st {ix x : Int32} {i : Nat} (hx : p.tables.exec = Jvm.exec) (hb : c.code = cc) (hG : G D (tyL cI cZ cD) s) (hI : xI D A H0 (wY B cI (v00 f)) H locs) (hi : ix = nI i) (hlt : i < 258) (hf : upd f i x = f1) (hdg : decode cc pc = .ok (.iastore, 1))
    (kk : ∀ (H1 : Heap) (locs1 : List Loc), xI D A H0 (wY B cI (v00 f1)) H1 locs1 → W p l e R s m args below meth c H1 locs1 cells slots Q (F0 m (pc + 1) ls rest)) : W p l e R s m args below meth c H locs cells slots Q (F0 m pc ls (.int x :: .int ix :: .ref (B 1) :: rest)) := by
  subst hi
  have hv := stI_some (stI_ok (u := v00 f) (a := 1) (x := x) hlt (by decide))
  refine va_iast hx hb hG.1 hI.1 hI.2.1 hI.2.2 1 0 (f := f) (cA := cI) (n := 258) (by rw [wG_at (by omega)]; rfl) rfl hv.1 hdg (fun H1 locs1 g1 g2 g3 => ?_)
  rw [i_tn (by omega), hf, ← eY_1 (A := B), wG_set (by omega), v00_up] at g1 g2
  exact kk H1 locs1 ⟨g1, g2, g3⟩
theorem x9_inner (hx : p.tables.exec = Jvm.exec) (hb : c.code = cX9_init) (hown : s.vm.findClass RX9 = some m.cls) (hG : G D (tyL cI cZ cD) s) : ∀ (n o t : Nat), o < 4 → t + n = 16 → ∀ (H : Heap) (locs : List Loc) (ls : Array Slot), lv_has ls 3 [(2, .int (nI t)), (1, .int (nI o)), (0, .ref (B 0))] → xI D A H0 (wY B cI (v00 (fN o t))) H locs →
    (∀ (H : Heap) (locs : List Loc) (ls : Array Slot), lv_has ls 3 [(2, .int (nI 16)), (1, .int (nI o)), (0, .ref (B 0))] → xI D A H0 (wY B cI (v00 (fN (o + 1) 0))) H locs → W p l e R s m args below meth c H locs cells slots Q (F0 m 166 ls [])) →
    W p l e R s m args below meth c H locs cells slots Q (F0 m 133 ls []) := by
  intro n
  induction n with
  | zero =>
    intro o t ho ht H locs ls hl hI kk
    obtain rfl : t = 16 := by omega
    rw [fN_row] at hI
    refine lv_iload_n hx hb dX9_init_133 rfl (lv_at hl 0 rfl) ?_
    refine lv_bipush (v := 16) hx hb dX9_init_134 (by decide) ?_
    refine lv_icmp_ge (tgt := 166) hx hb dX9_init_136 (by decide) (fun _ => ?_) (fun c0 => absurd (by decide) c0)
    exact kk H locs ls hl hI
  | succ n ih =>
    intro o t ho ht H locs ls hl hI kk
    refine lv_iload_n hx hb dX9_init_133 rfl (lv_at hl 0 rfl) ?_
    refine lv_bipush (v := 16) hx hb dX9_init_134 (by decide) ?_
    refine lv_icmp_ge (tgt := 166) hx hb dX9_init_136 (by decide) (fun c0 => absurd c0 (by rw [nle_16 (by omega)]; omega)) (fun _ => ?_)
    refine lv_aload_n hx hb dX9_init_139 rfl (lv_at hl 2 rfl) ?_
    refine xy_get hx hb hown hG hI dX9_init_140 ?_
    refine lv_bipush (v := 64) hx hb dX9_init_143 (by decide) ?_
    refine lv_iload_n hx hb dX9_init_145 rfl (lv_at hl 1 rfl) ?_
    refine lv_imul hx hb dX9_init_146 ?_
    refine lv_iload_n hx hb dX9_init_147 rfl (lv_at hl 0 rfl) ?_
    refine lv_iadd hx hb dX9_init_148 ?_
    refine lv_iload_n hx hb dX9_init_149 rfl (lv_at hl 0 rfl) ?_
    have hix : (64 : Int32) * nI o + nI t = nI (64 * o + t) := by rw [nml_64, i_add]
    refine lv_if_ne (tgt := 157) hx hb dX9_init_150 (by decide) (fun c1 => ?_) (fun c1 => ?_)
    · have h0 : t ≠ 0 := fun z => c1 (by rw [z]; rfl)
      refine lv_bipush (v := (-9)) hx hb dX9_init_157 (by decide) ?_
      refine xy_st (f1 := fN o (t + 1)) hx hb hG hI hix (by omega) (by rw [← fN_step ho (by omega), if_neg h0]) dX9_init_159 (fun H locs hI => ?_)
      refine lv_iinc (v := nI (t + 1)) (lv' := [(2, .int (nI (t + 1))), (1, .int (nI o)), (0, .ref (B 0))]) hx hb dX9_init_160 hl (k := 0) rfl (nar_1 t) (by decide) rfl (fun ls hl => ?_)
      refine lv_goto (tgt := 133) hx hb dX9_init_163 (by decide) ?_
      exact ih o (t + 1) ho (by omega) H locs ls hl hI kk
    · have h0 : t = 0 := by
        have := c1
        rw [neq_0 (by omega)] at this
        exact this
      refine lv_iconst (v := (-1)) hx hb dX9_init_153 (by decide) ?_
      refine lv_goto (tgt := 159) hx hb dX9_init_154 (by decide) ?_
      refine xy_st (f1 := fN o (t + 1)) hx hb hG hI hix (by omega) (by rw [← fN_step ho (by omega), if_pos h0]) dX9_init_159 (fun H locs hI => ?_)
      refine lv_iinc (v := nI (t + 1)) (lv' := [(2, .int (nI (t + 1))), (1, .int (nI o)), (0, .ref (B 0))]) hx hb dX9_init_160 hl (k := 0) rfl (nar_1 t) (by decide) rfl (fun ls hl => ?_)
      refine lv_goto (tgt := 133) hx hb dX9_init_163 (by decide) ?_
      exact ih o (t + 1) ho (by omega) H locs ls hl hI kk
theorem x9_outer (hx : p.tables.exec = Jvm.exec) (hb : c.code = cX9_init) (hown : s.vm.findClass RX9 = some m.cls) (hG : G D (tyL cI cZ cD) s) : ∀ (n o : Nat), o + n = 4 → ∀ (H : Heap) (locs : List Loc) (ls : Array Slot), lv_has ls 3 ((1, .int (nI o)) :: (0, .ref (B 0)) :: [])  → xI D A H0 (wY B cI (v00 (fN o 0))) H locs →
    (∀ (H : Heap) (locs : List Loc) (ls : Array Slot), lv_has ls 3 [(1, .int (nI 4)), (0, .ref (B 0))] → xI D A H0 (wY B cI (v00 (fN 4 0))) H locs → W p l e R s m args below meth c H locs cells slots Q (F0 m 172 ls [])) →
    W p l e R s m args below meth c H locs cells slots Q (F0 m 126 ls []) := by
  intro n
  induction n with
  | zero =>
    intro o ho H locs ls hl hI kk
    obtain rfl : o = 4 := by omega
    refine lv_iload_n hx hb dX9_init_126 rfl (lv_at hl 0 rfl) ?_
    refine lv_iconst (v := 4) hx hb dX9_init_127 (by decide) ?_
    refine lv_icmp_ge (tgt := 172) hx hb dX9_init_128 (by decide) (fun _ => ?_) (fun c0 => absurd (by decide) c0)
    exact kk H locs ls hl hI
  | succ n ih =>
    intro o ho H locs ls hl hI kk
    refine lv_iload_n hx hb dX9_init_126 rfl (lv_at hl 0 rfl) ?_
    refine lv_iconst (v := 4) hx hb dX9_init_127 (by decide) ?_
    refine lv_icmp_ge (tgt := 172) hx hb dX9_init_128 (by decide) (fun c0 => absurd c0 (by rw [nle_4 (by omega)]; omega)) (fun _ => ?_)
    refine lv_iconst (v := 0) hx hb dX9_init_131 (by decide) ?_
    refine lv_istore_n (lv' := [(2, .int (nI 0)), (1, .int (nI o)), (0, .ref (B 0))]) hx hb dX9_init_132 rfl hl (by decide) rfl (fun ls hl => ?_)
    refine x9_inner hx hb hown hG 16 o 0 (by omega) rfl H locs ls hl hI (fun H locs ls hl hI => ?_)
    refine lv_iinc (v := nI (o + 1)) (lv' := [(1, .int (nI (o + 1))), (2, .int (nI 16)), (0, .ref (B 0))]) hx hb dX9_init_166 hl (k := 1) rfl (nar_1 o) (by decide) rfl (fun ls hl => ?_)
    refine lv_goto (tgt := 126) hx hb dX9_init_169 (by decide) ?_
    exact ih (o + 1) (by omega) H locs ls (lv_sub hl [0, 2] rfl) hI kk
end XY
set_option maxHeartbeats 4000000 in
set_option maxRecDepth 100000 in
theorem c_X9_init {l : Launch} {D : va_G} {cI cZ cD : ClassId} {q : Nat} : CtI l yX9_init cX9_init 3 1 12 14 3292 D (tyL cI cZ cD) [.ref q] [(q, .inr (9, [.null, .null, .null, .null, .int 0, .null, .null, .int 0, .null, .null, .null, .int 0, .null, .int 0, .null, .null, .null, .int 0, .null, .int 0, .int 0, .int 0]))] (fun B => wY (fun i => match i with | 0 => q | k + 1 => B k) cI (v00 gN)) := by
  refine CtI.ofW (by decide +kernel) (fun p e s m below meth c hC hin hO hI => ?_)
  obtain ⟨hx, hb, hml, hown, hr, hlk, hG⟩ := hC
  have hown : s.vm.findClass RX9 = some m.cls := hown
  have hin : meth.name = "<init>" := hin
  have hl := lv_entry ([.ref q] : List Value) (n := 3) (Nat.le_of_ble_eq_true rfl)
  rw [lg_entry_eq]
  generalize (lg_sl ([.ref q] : List Value) ++ List.replicate (3 - (lg_sl ([.ref q] : List Value)).length) Slot.unset).toArray = ls at hl ⊢
  have hl : lv_has ls 3 [(0, .ref q)] := hl
  refine lv_aload_n hx hb dX9_init_0 rfl (lv_at hl 0 rfl) ?_
  refine xn_obj (rest := []) hx hb hml hl.1 hown hG km_X9_1 dX9_init_1 (Nat.le_of_ble_eq_true rfl) (Nat.le_of_ble_eq_true rfl) ?_
  refine lv_aload_n hx hb dX9_init_4 rfl (lv_at hl 0 rfl) ?_
  refine lv_sipush (v := 258) hx hb dX9_init_5 (by decide) ?_
  refine xn_newI (N' := 258) hx hb hG hI xA_of 0 rfl (by decide) (by decide) (Nat.le_of_ble_eq_true rfl) (Nat.le_of_ble_eq_true rfl) (Nat.le_of_ble_eq_true rfl) dX9_init_8 (fun a1 H hI => ?_)
  have hI : xI D (va_A [(q, .inr (9, [.null, .null, .null, .null, .int 0, .null, .null, .int 0, .null, .null, .null, .int 0, .null, .int 0, .null, .null, .null, .int 0, .null, .int 0, .int 0, .int 0]))] s.heap.size) s.heap ([(q, .inr (9, [.null, .null, .null, .null, .int 0, .null, .null, .int 0, .null, .null, .null, .int 0, .null, .int 0, .null, .null, .null, .int 0, .null, .int 0, .int 0, .int 0]))] ++ [(a1, .inl (cI, 258, .inl (fun _ => 0)))]) _ _ := hI
  refine xn_putF (own := RX9) (C := RX9) (T := TX9) (N := 22) (ci := 9) (ty := .array .int) (v := .ref a1) hx hb hown hG hI 0 rfl rfl inX9 tyX9 tyX9_ok nmX9 0 (by decide) kf_X9_7 rfl hin rfl (by decide +kernel) rfl rfl (Nat.le_of_ble_eq_true rfl) dX9_init_10 (fun H locs hI => ?_)
  have hI : xI D (va_A [(q, .inr (9, [.null, .null, .null, .null, .int 0, .null, .null, .int 0, .null, .null, .null, .int 0, .null, .int 0, .null, .null, .null, .int 0, .null, .int 0, .int 0, .int 0]))] s.heap.size) s.heap ([(q, .inr (9, [.ref a1, .null, .null, .null, .int 0, .null, .null, .int 0, .null, .null, .null, .int 0, .null, .int 0, .null, .null, .null, .int 0, .null, .int 0, .int 0, .int 0]))] ++ [(a1, .inl (cI, 258, .inl (fun _ => 0)))]) _ _ := hI
  refine lv_aload_n hx hb dX9_init_13 rfl (lv_at hl 0 rfl) ?_
  refine lv_sipush (v := 258) hx hb dX9_init_14 (by decide) ?_
  refine xn_newI (N' := 258) hx hb hG hI xA_of 0 rfl (by decide) (by decide) (Nat.le_of_ble_eq_true rfl) (Nat.le_of_ble_eq_true rfl) (Nat.le_of_ble_eq_true rfl) dX9_init_17 (fun a2 H hI => ?_)
  have hI : xI D (va_A [(q, .inr (9, [.null, .null, .null, .null, .int 0, .null, .null, .int 0, .null, .null, .null, .int 0, .null, .int 0, .null, .null, .null, .int 0, .null, .int 0, .int 0, .int 0]))] s.heap.size) s.heap ([(q, .inr (9, [.ref a1, .null, .null, .null, .int 0, .null, .null, .int 0, .null, .null, .null, .int 0, .null, .int 0, .null, .null, .null, .int 0, .null, .int 0, .int 0, .int 0]))] ++ [(a1, .inl (cI, 258, .inl (fun _ => 0)))] ++ [(a2, .inl (cI, 258, .inl (fun _ => 0)))]) _ _ := hI
  refine xn_putF (own := RX9) (C := RX9) (T := TX9) (N := 22) (ci := 9) (ty := .array .int) (v := .ref a2) hx hb hown hG hI 0 rfl rfl inX9 tyX9 tyX9_ok nmX9 1 (by decide) kf_X9_13 rfl hin rfl (by decide +kernel) rfl rfl (Nat.le_of_ble_eq_true rfl) dX9_init_19 (fun H locs hI => ?_)
  have hI : xI D (va_A [(q, .inr (9, [.null, .null, .null, .null, .int 0, .null, .null, .int 0, .null, .null, .null, .int 0, .null, .int 0, .null, .null, .null, .int 0, .null, .int 0, .int 0, .int 0]))] s.heap.size) s.heap ([(q, .inr (9, [.ref a1, .ref a2, .null, .null, .int 0, .null, .null, .int 0, .null, .null, .null, .int 0, .null, .int 0, .null, .null, .null, .int 0, .null, .int 0, .int 0, .int 0]))] ++ [(a1, .inl (cI, 258, .inl (fun _ => 0)))] ++ [(a2, .inl (cI, 258, .inl (fun _ => 0)))]) _ _ := hI
  refine lv_aload_n hx hb dX9_init_22 rfl (lv_at hl 0 rfl) ?_
  refine lv_sipush (v := 258) hx hb dX9_init_23 (by decide) ?_
  refine xn_newI (N' := 258) hx hb hG hI xA_of 0 rfl (by decide) (by decide) (Nat.le_of_ble_eq_true rfl) (Nat.le_of_ble_eq_true rfl) (Nat.le_of_ble_eq_true rfl) dX9_init_26 (fun a3 H hI => ?_)
  have hI : xI D (va_A [(q, .inr (9, [.null, .null, .null, .null, .int 0, .null, .null, .int 0, .null, .null, .null, .int 0, .null, .int 0, .null, .null, .null, .int 0, .null, .int 0, .int 0, .int 0]))] s.heap.size) s.heap ([(q, .inr (9, [.ref a1, .ref a2, .null, .null, .int 0, .null, .null, .int 0, .null, .null, .null, .int 0, .null, .int 0, .null, .null, .null, .int 0, .null, .int 0, .int 0, .int 0]))] ++ [(a1, .inl (cI, 258, .inl (fun _ => 0)))] ++ [(a2, .inl (cI, 258, .inl (fun _ => 0)))] ++ [(a3, .inl (cI, 258, .inl (fun _ => 0)))]) _ _ := hI
  refine xn_putF (own := RX9) (C := RX9) (T := TX9) (N := 22) (ci := 9) (ty := .array .int) (v := .ref a3) hx hb hown hG hI 0 rfl rfl inX9 tyX9 tyX9_ok nmX9 2 (by decide) kf_X9_16 rfl hin rfl (by decide +kernel) rfl rfl (Nat.le_of_ble_eq_true rfl) dX9_init_28 (fun H locs hI => ?_)
  have hI : xI D (va_A [(q, .inr (9, [.null, .null, .null, .null, .int 0, .null, .null, .int 0, .null, .null, .null, .int 0, .null, .int 0, .null, .null, .null, .int 0, .null, .int 0, .int 0, .int 0]))] s.heap.size) s.heap ([(q, .inr (9, [.ref a1, .ref a2, .ref a3, .null, .int 0, .null, .null, .int 0, .null, .null, .null, .int 0, .null, .int 0, .null, .null, .null, .int 0, .null, .int 0, .int 0, .int 0]))] ++ [(a1, .inl (cI, 258, .inl (fun _ => 0)))] ++ [(a2, .inl (cI, 258, .inl (fun _ => 0)))] ++ [(a3, .inl (cI, 258, .inl (fun _ => 0)))]) _ _ := hI
  refine lv_aload_n hx hb dX9_init_31 rfl (lv_at hl 0 rfl) ?_
  refine lv_sipush (v := 1290) hx hb dX9_init_32 (by decide) ?_
  refine xn_newI (N' := 1290) hx hb hG hI xA_of 0 rfl (by decide) (by decide) (Nat.le_of_ble_eq_true rfl) (Nat.le_of_ble_eq_true rfl) (Nat.le_of_ble_eq_true rfl) dX9_init_35 (fun a4 H hI => ?_)
  have hI : xI D (va_A [(q, .inr (9, [.null, .null, .null, .null, .int 0, .null, .null, .int 0, .null, .null, .null, .int 0, .null, .int 0, .null, .null, .null, .int 0, .null, .int 0, .int 0, .int 0]))] s.heap.size) s.heap ([(q, .inr (9, [.ref a1, .ref a2, .ref a3, .null, .int 0, .null, .null, .int 0, .null, .null, .null, .int 0, .null, .int 0, .null, .null, .null, .int 0, .null, .int 0, .int 0, .int 0]))] ++ [(a1, .inl (cI, 258, .inl (fun _ => 0)))] ++ [(a2, .inl (cI, 258, .inl (fun _ => 0)))] ++ [(a3, .inl (cI, 258, .inl (fun _ => 0)))] ++ [(a4, .inl (cI, 1290, .inl (fun _ => 0)))]) _ _ := hI
  refine xn_putF (own := RX9) (C := RX9) (T := TX9) (N := 22) (ci := 9) (ty := .array .int) (v := .ref a4) hx hb hown hG hI 0 rfl rfl inX9 tyX9 tyX9_ok nmX9 3 (by decide) kf_X9_19 rfl hin rfl (by decide +kernel) rfl rfl (Nat.le_of_ble_eq_true rfl) dX9_init_37 (fun H locs hI => ?_)
  have hI : xI D (va_A [(q, .inr (9, [.null, .null, .null, .null, .int 0, .null, .null, .int 0, .null, .null, .null, .int 0, .null, .int 0, .null, .null, .null, .int 0, .null, .int 0, .int 0, .int 0]))] s.heap.size) s.heap ([(q, .inr (9, [.ref a1, .ref a2, .ref a3, .ref a4, .int 0, .null, .null, .int 0, .null, .null, .null, .int 0, .null, .int 0, .null, .null, .null, .int 0, .null, .int 0, .int 0, .int 0]))] ++ [(a1, .inl (cI, 258, .inl (fun _ => 0)))] ++ [(a2, .inl (cI, 258, .inl (fun _ => 0)))] ++ [(a3, .inl (cI, 258, .inl (fun _ => 0)))] ++ [(a4, .inl (cI, 1290, .inl (fun _ => 0)))]) _ _ := hI
  refine lv_aload_n hx hb dX9_init_40 rfl (lv_at hl 0 rfl) ?_
  refine lv_iconst (v := 3) hx hb dX9_init_41 (by decide) ?_
  refine xn_newI (N' := 3) hx hb hG hI xA_of 0 rfl (by decide) (by decide) (Nat.le_of_ble_eq_true rfl) (Nat.le_of_ble_eq_true rfl) (Nat.le_of_ble_eq_true rfl) dX9_init_42 (fun a5 H hI => ?_)
  have hI : xI D (va_A [(q, .inr (9, [.null, .null, .null, .null, .int 0, .null, .null, .int 0, .null, .null, .null, .int 0, .null, .int 0, .null, .null, .null, .int 0, .null, .int 0, .int 0, .int 0]))] s.heap.size) s.heap ([(q, .inr (9, [.ref a1, .ref a2, .ref a3, .ref a4, .int 0, .null, .null, .int 0, .null, .null, .null, .int 0, .null, .int 0, .null, .null, .null, .int 0, .null, .int 0, .int 0, .int 0]))] ++ [(a1, .inl (cI, 258, .inl (fun _ => 0)))] ++ [(a2, .inl (cI, 258, .inl (fun _ => 0)))] ++ [(a3, .inl (cI, 258, .inl (fun _ => 0)))] ++ [(a4, .inl (cI, 1290, .inl (fun _ => 0)))] ++ [(a5, .inl (cI, 3, .inl (fun _ => 0)))]) _ _ := hI
  refine xn_putF (own := RX9) (C := RX9) (T := TX9) (N := 22) (ci := 9) (ty := .array .int) (v := .ref a5) hx hb hown hG hI 0 rfl rfl inX9 tyX9 tyX9_ok nmX9 5 (by decide) kf_X9_22 rfl hin rfl (by decide +kernel) rfl rfl (Nat.le_of_ble_eq_true rfl) dX9_init_44 (fun H locs hI => ?_)
  have hI : xI D (va_A [(q, .inr (9, [.null, .null, .null, .null, .int 0, .null, .null, .int 0, .null, .null, .null, .int 0, .null, .int 0, .null, .null, .null, .int 0, .null, .int 0, .int 0, .int 0]))] s.heap.size) s.heap ([(q, .inr (9, [.ref a1, .ref a2, .ref a3, .ref a4, .int 0, .ref a5, .null, .int 0, .null, .null, .null, .int 0, .null, .int 0, .null, .null, .null, .int 0, .null, .int 0, .int 0, .int 0]))] ++ [(a1, .inl (cI, 258, .inl (fun _ => 0)))] ++ [(a2, .inl (cI, 258, .inl (fun _ => 0)))] ++ [(a3, .inl (cI, 258, .inl (fun _ => 0)))] ++ [(a4, .inl (cI, 1290, .inl (fun _ => 0)))] ++ [(a5, .inl (cI, 3, .inl (fun _ => 0)))]) _ _ := hI
  refine lv_aload_n hx hb dX9_init_47 rfl (lv_at hl 0 rfl) ?_
  refine lv_sipush (v := 150) hx hb dX9_init_48 (by decide) ?_
  refine xn_newI (N' := 150) hx hb hG hI xA_of 0 rfl (by decide) (by decide) (Nat.le_of_ble_eq_true rfl) (Nat.le_of_ble_eq_true rfl) (Nat.le_of_ble_eq_true rfl) dX9_init_51 (fun a6 H hI => ?_)
  have hI : xI D (va_A [(q, .inr (9, [.null, .null, .null, .null, .int 0, .null, .null, .int 0, .null, .null, .null, .int 0, .null, .int 0, .null, .null, .null, .int 0, .null, .int 0, .int 0, .int 0]))] s.heap.size) s.heap ([(q, .inr (9, [.ref a1, .ref a2, .ref a3, .ref a4, .int 0, .ref a5, .null, .int 0, .null, .null, .null, .int 0, .null, .int 0, .null, .null, .null, .int 0, .null, .int 0, .int 0, .int 0]))] ++ [(a1, .inl (cI, 258, .inl (fun _ => 0)))] ++ [(a2, .inl (cI, 258, .inl (fun _ => 0)))] ++ [(a3, .inl (cI, 258, .inl (fun _ => 0)))] ++ [(a4, .inl (cI, 1290, .inl (fun _ => 0)))] ++ [(a5, .inl (cI, 3, .inl (fun _ => 0)))] ++ [(a6, .inl (cI, 150, .inl (fun _ => 0)))]) _ _ := hI
  refine xn_putF (own := RX9) (C := RX9) (T := TX9) (N := 22) (ci := 9) (ty := .array .int) (v := .ref a6) hx hb hown hG hI 0 rfl rfl inX9 tyX9 tyX9_ok nmX9 6 (by decide) kf_X9_25 rfl hin rfl (by decide +kernel) rfl rfl (Nat.le_of_ble_eq_true rfl) dX9_init_53 (fun H locs hI => ?_)
  have hI : xI D (va_A [(q, .inr (9, [.null, .null, .null, .null, .int 0, .null, .null, .int 0, .null, .null, .null, .int 0, .null, .int 0, .null, .null, .null, .int 0, .null, .int 0, .int 0, .int 0]))] s.heap.size) s.heap ([(q, .inr (9, [.ref a1, .ref a2, .ref a3, .ref a4, .int 0, .ref a5, .ref a6, .int 0, .null, .null, .null, .int 0, .null, .int 0, .null, .null, .null, .int 0, .null, .int 0, .int 0, .int 0]))] ++ [(a1, .inl (cI, 258, .inl (fun _ => 0)))] ++ [(a2, .inl (cI, 258, .inl (fun _ => 0)))] ++ [(a3, .inl (cI, 258, .inl (fun _ => 0)))] ++ [(a4, .inl (cI, 1290, .inl (fun _ => 0)))] ++ [(a5, .inl (cI, 3, .inl (fun _ => 0)))] ++ [(a6, .inl (cI, 150, .inl (fun _ => 0)))]) _ _ := hI
  refine lv_aload_n hx hb dX9_init_56 rfl (lv_at hl 0 rfl) ?_
  refine lv_sipush (v := 150) hx hb dX9_init_57 (by decide) ?_
  refine xn_newI (N' := 150) hx hb hG hI xA_of 0 rfl (by decide) (by decide) (Nat.le_of_ble_eq_true rfl) (Nat.le_of_ble_eq_true rfl) (Nat.le_of_ble_eq_true rfl) dX9_init_60 (fun a7 H hI => ?_)
  have hI : xI D (va_A [(q, .inr (9, [.null, .null, .null, .null, .int 0, .null, .null, .int 0, .null, .null, .null, .int 0, .null, .int 0, .null, .null, .null, .int 0, .null, .int 0, .int 0, .int 0]))] s.heap.size) s.heap ([(q, .inr (9, [.ref a1, .ref a2, .ref a3, .ref a4, .int 0, .ref a5, .ref a6, .int 0, .null, .null, .null, .int 0, .null, .int 0, .null, .null, .null, .int 0, .null, .int 0, .int 0, .int 0]))] ++ [(a1, .inl (cI, 258, .inl (fun _ => 0)))] ++ [(a2, .inl (cI, 258, .inl (fun _ => 0)))] ++ [(a3, .inl (cI, 258, .inl (fun _ => 0)))] ++ [(a4, .inl (cI, 1290, .inl (fun _ => 0)))] ++ [(a5, .inl (cI, 3, .inl (fun _ => 0)))] ++ [(a6, .inl (cI, 150, .inl (fun _ => 0)))] ++ [(a7, .inl (cI, 150, .inl (fun _ => 0)))]) _ _ := hI
  refine xn_putF (own := RX9) (C := RX9) (T := TX9) (N := 22) (ci := 9) (ty := .array .int) (v := .ref a7) hx hb hown hG hI 0 rfl rfl inX9 tyX9 tyX9_ok nmX9 8 (by decide) kf_X9_28 rfl hin rfl (by decide +kernel) rfl rfl (Nat.le_of_ble_eq_true rfl) dX9_init_62 (fun H locs hI => ?_)
  have hI : xI D (va_A [(q, .inr (9, [.null, .null, .null, .null, .int 0, .null, .null, .int 0, .null, .null, .null, .int 0, .null, .int 0, .null, .null, .null, .int 0, .null, .int 0, .int 0, .int 0]))] s.heap.size) s.heap ([(q, .inr (9, [.ref a1, .ref a2, .ref a3, .ref a4, .int 0, .ref a5, .ref a6, .int 0, .ref a7, .null, .null, .int 0, .null, .int 0, .null, .null, .null, .int 0, .null, .int 0, .int 0, .int 0]))] ++ [(a1, .inl (cI, 258, .inl (fun _ => 0)))] ++ [(a2, .inl (cI, 258, .inl (fun _ => 0)))] ++ [(a3, .inl (cI, 258, .inl (fun _ => 0)))] ++ [(a4, .inl (cI, 1290, .inl (fun _ => 0)))] ++ [(a5, .inl (cI, 3, .inl (fun _ => 0)))] ++ [(a6, .inl (cI, 150, .inl (fun _ => 0)))] ++ [(a7, .inl (cI, 150, .inl (fun _ => 0)))]) _ _ := hI
  refine lv_aload_n hx hb dX9_init_65 rfl (lv_at hl 0 rfl) ?_
  refine lv_sipush (v := 151) hx hb dX9_init_66 (by decide) ?_
  refine xn_newI (N' := 151) hx hb hG hI xA_of 0 rfl (by decide) (by decide) (Nat.le_of_ble_eq_true rfl) (Nat.le_of_ble_eq_true rfl) (Nat.le_of_ble_eq_true rfl) dX9_init_69 (fun a8 H hI => ?_)
  have hI : xI D (va_A [(q, .inr (9, [.null, .null, .null, .null, .int 0, .null, .null, .int 0, .null, .null, .null, .int 0, .null, .int 0, .null, .null, .null, .int 0, .null, .int 0, .int 0, .int 0]))] s.heap.size) s.heap ([(q, .inr (9, [.ref a1, .ref a2, .ref a3, .ref a4, .int 0, .ref a5, .ref a6, .int 0, .ref a7, .null, .null, .int 0, .null, .int 0, .null, .null, .null, .int 0, .null, .int 0, .int 0, .int 0]))] ++ [(a1, .inl (cI, 258, .inl (fun _ => 0)))] ++ [(a2, .inl (cI, 258, .inl (fun _ => 0)))] ++ [(a3, .inl (cI, 258, .inl (fun _ => 0)))] ++ [(a4, .inl (cI, 1290, .inl (fun _ => 0)))] ++ [(a5, .inl (cI, 3, .inl (fun _ => 0)))] ++ [(a6, .inl (cI, 150, .inl (fun _ => 0)))] ++ [(a7, .inl (cI, 150, .inl (fun _ => 0)))] ++ [(a8, .inl (cI, 151, .inl (fun _ => 0)))]) _ _ := hI
  refine xn_putF (own := RX9) (C := RX9) (T := TX9) (N := 22) (ci := 9) (ty := .array .int) (v := .ref a8) hx hb hown hG hI 0 rfl rfl inX9 tyX9 tyX9_ok nmX9 9 (by decide) kf_X9_31 rfl hin rfl (by decide +kernel) rfl rfl (Nat.le_of_ble_eq_true rfl) dX9_init_71 (fun H locs hI => ?_)
  have hI : xI D (va_A [(q, .inr (9, [.null, .null, .null, .null, .int 0, .null, .null, .int 0, .null, .null, .null, .int 0, .null, .int 0, .null, .null, .null, .int 0, .null, .int 0, .int 0, .int 0]))] s.heap.size) s.heap ([(q, .inr (9, [.ref a1, .ref a2, .ref a3, .ref a4, .int 0, .ref a5, .ref a6, .int 0, .ref a7, .ref a8, .null, .int 0, .null, .int 0, .null, .null, .null, .int 0, .null, .int 0, .int 0, .int 0]))] ++ [(a1, .inl (cI, 258, .inl (fun _ => 0)))] ++ [(a2, .inl (cI, 258, .inl (fun _ => 0)))] ++ [(a3, .inl (cI, 258, .inl (fun _ => 0)))] ++ [(a4, .inl (cI, 1290, .inl (fun _ => 0)))] ++ [(a5, .inl (cI, 3, .inl (fun _ => 0)))] ++ [(a6, .inl (cI, 150, .inl (fun _ => 0)))] ++ [(a7, .inl (cI, 150, .inl (fun _ => 0)))] ++ [(a8, .inl (cI, 151, .inl (fun _ => 0)))]) _ _ := hI
  refine lv_aload_n hx hb dX9_init_74 rfl (lv_at hl 0 rfl) ?_
  refine lv_sipush (v := 150) hx hb dX9_init_75 (by decide) ?_
  refine xn_newI (N' := 150) hx hb hG hI xA_of 0 rfl (by decide) (by decide) (Nat.le_of_ble_eq_true rfl) (Nat.le_of_ble_eq_true rfl) (Nat.le_of_ble_eq_true rfl) dX9_init_78 (fun a9 H hI => ?_)
  have hI : xI D (va_A [(q, .inr (9, [.null, .null, .null, .null, .int 0, .null, .null, .int 0, .null, .null, .null, .int 0, .null, .int 0, .null, .null, .null, .int 0, .null, .int 0, .int 0, .int 0]))] s.heap.size) s.heap ([(q, .inr (9, [.ref a1, .ref a2, .ref a3, .ref a4, .int 0, .ref a5, .ref a6, .int 0, .ref a7, .ref a8, .null, .int 0, .null, .int 0, .null, .null, .null, .int 0, .null, .int 0, .int 0, .int 0]))] ++ [(a1, .inl (cI, 258, .inl (fun _ => 0)))] ++ [(a2, .inl (cI, 258, .inl (fun _ => 0)))] ++ [(a3, .inl (cI, 258, .inl (fun _ => 0)))] ++ [(a4, .inl (cI, 1290, .inl (fun _ => 0)))] ++ [(a5, .inl (cI, 3, .inl (fun _ => 0)))] ++ [(a6, .inl (cI, 150, .inl (fun _ => 0)))] ++ [(a7, .inl (cI, 150, .inl (fun _ => 0)))] ++ [(a8, .inl (cI, 151, .inl (fun _ => 0)))] ++ [(a9, .inl (cI, 150, .inl (fun _ => 0)))]) _ _ := hI
  refine xn_putF (own := RX9) (C := RX9) (T := TX9) (N := 22) (ci := 9) (ty := .array .int) (v := .ref a9) hx hb hown hG hI 0 rfl rfl inX9 tyX9 tyX9_ok nmX9 10 (by decide) kf_X9_34 rfl hin rfl (by decide +kernel) rfl rfl (Nat.le_of_ble_eq_true rfl) dX9_init_80 (fun H locs hI => ?_)
  have hI : xI D (va_A [(q, .inr (9, [.null, .null, .null, .null, .int 0, .null, .null, .int 0, .null, .null, .null, .int 0, .null, .int 0, .null, .null, .null, .int 0, .null, .int 0, .int 0, .int 0]))] s.heap.size) s.heap ([(q, .inr (9, [.ref a1, .ref a2, .ref a3, .ref a4, .int 0, .ref a5, .ref a6, .int 0, .ref a7, .ref a8, .ref a9, .int 0, .null, .int 0, .null, .null, .null, .int 0, .null, .int 0, .int 0, .int 0]))] ++ [(a1, .inl (cI, 258, .inl (fun _ => 0)))] ++ [(a2, .inl (cI, 258, .inl (fun _ => 0)))] ++ [(a3, .inl (cI, 258, .inl (fun _ => 0)))] ++ [(a4, .inl (cI, 1290, .inl (fun _ => 0)))] ++ [(a5, .inl (cI, 3, .inl (fun _ => 0)))] ++ [(a6, .inl (cI, 150, .inl (fun _ => 0)))] ++ [(a7, .inl (cI, 150, .inl (fun _ => 0)))] ++ [(a8, .inl (cI, 151, .inl (fun _ => 0)))] ++ [(a9, .inl (cI, 150, .inl (fun _ => 0)))]) _ _ := hI
  refine lv_aload_n hx hb dX9_init_83 rfl (lv_at hl 0 rfl) ?_
  refine lv_sipush (v := 480) hx hb dX9_init_84 (by decide) ?_
  refine xn_newI (N' := 480) hx hb hG hI xA_of 0 rfl (by decide) (by decide) (Nat.le_of_ble_eq_true rfl) (Nat.le_of_ble_eq_true rfl) (Nat.le_of_ble_eq_true rfl) dX9_init_87 (fun a10 H hI => ?_)
  have hI : xI D (va_A [(q, .inr (9, [.null, .null, .null, .null, .int 0, .null, .null, .int 0, .null, .null, .null, .int 0, .null, .int 0, .null, .null, .null, .int 0, .null, .int 0, .int 0, .int 0]))] s.heap.size) s.heap ([(q, .inr (9, [.ref a1, .ref a2, .ref a3, .ref a4, .int 0, .ref a5, .ref a6, .int 0, .ref a7, .ref a8, .ref a9, .int 0, .null, .int 0, .null, .null, .null, .int 0, .null, .int 0, .int 0, .int 0]))] ++ [(a1, .inl (cI, 258, .inl (fun _ => 0)))] ++ [(a2, .inl (cI, 258, .inl (fun _ => 0)))] ++ [(a3, .inl (cI, 258, .inl (fun _ => 0)))] ++ [(a4, .inl (cI, 1290, .inl (fun _ => 0)))] ++ [(a5, .inl (cI, 3, .inl (fun _ => 0)))] ++ [(a6, .inl (cI, 150, .inl (fun _ => 0)))] ++ [(a7, .inl (cI, 150, .inl (fun _ => 0)))] ++ [(a8, .inl (cI, 151, .inl (fun _ => 0)))] ++ [(a9, .inl (cI, 150, .inl (fun _ => 0)))] ++ [(a10, .inl (cI, 480, .inl (fun _ => 0)))]) _ _ := hI
  refine xn_putF (own := RX9) (C := RX9) (T := TX9) (N := 22) (ci := 9) (ty := .array .int) (v := .ref a10) hx hb hown hG hI 0 rfl rfl inX9 tyX9 tyX9_ok nmX9 12 (by decide) kf_X9_37 rfl hin rfl (by decide +kernel) rfl rfl (Nat.le_of_ble_eq_true rfl) dX9_init_89 (fun H locs hI => ?_)
  have hI : xI D (va_A [(q, .inr (9, [.null, .null, .null, .null, .int 0, .null, .null, .int 0, .null, .null, .null, .int 0, .null, .int 0, .null, .null, .null, .int 0, .null, .int 0, .int 0, .int 0]))] s.heap.size) s.heap ([(q, .inr (9, [.ref a1, .ref a2, .ref a3, .ref a4, .int 0, .ref a5, .ref a6, .int 0, .ref a7, .ref a8, .ref a9, .int 0, .ref a10, .int 0, .null, .null, .null, .int 0, .null, .int 0, .int 0, .int 0]))] ++ [(a1, .inl (cI, 258, .inl (fun _ => 0)))] ++ [(a2, .inl (cI, 258, .inl (fun _ => 0)))] ++ [(a3, .inl (cI, 258, .inl (fun _ => 0)))] ++ [(a4, .inl (cI, 1290, .inl (fun _ => 0)))] ++ [(a5, .inl (cI, 3, .inl (fun _ => 0)))] ++ [(a6, .inl (cI, 150, .inl (fun _ => 0)))] ++ [(a7, .inl (cI, 150, .inl (fun _ => 0)))] ++ [(a8, .inl (cI, 151, .inl (fun _ => 0)))] ++ [(a9, .inl (cI, 150, .inl (fun _ => 0)))] ++ [(a10, .inl (cI, 480, .inl (fun _ => 0)))]) _ _ := hI
  refine lv_aload_n hx hb dX9_init_92 rfl (lv_at hl 0 rfl) ?_
  refine lv_bipush (v := 16) hx hb dX9_init_93 (by decide) ?_
  refine xn_newI (N' := 16) hx hb hG hI xA_of 0 rfl (by decide) (by decide) (Nat.le_of_ble_eq_true rfl) (Nat.le_of_ble_eq_true rfl) (Nat.le_of_ble_eq_true rfl) dX9_init_95 (fun a11 H hI => ?_)
  have hI : xI D (va_A [(q, .inr (9, [.null, .null, .null, .null, .int 0, .null, .null, .int 0, .null, .null, .null, .int 0, .null, .int 0, .null, .null, .null, .int 0, .null, .int 0, .int 0, .int 0]))] s.heap.size) s.heap ([(q, .inr (9, [.ref a1, .ref a2, .ref a3, .ref a4, .int 0, .ref a5, .ref a6, .int 0, .ref a7, .ref a8, .ref a9, .int 0, .ref a10, .int 0, .null, .null, .null, .int 0, .null, .int 0, .int 0, .int 0]))] ++ [(a1, .inl (cI, 258, .inl (fun _ => 0)))] ++ [(a2, .inl (cI, 258, .inl (fun _ => 0)))] ++ [(a3, .inl (cI, 258, .inl (fun _ => 0)))] ++ [(a4, .inl (cI, 1290, .inl (fun _ => 0)))] ++ [(a5, .inl (cI, 3, .inl (fun _ => 0)))] ++ [(a6, .inl (cI, 150, .inl (fun _ => 0)))] ++ [(a7, .inl (cI, 150, .inl (fun _ => 0)))] ++ [(a8, .inl (cI, 151, .inl (fun _ => 0)))] ++ [(a9, .inl (cI, 150, .inl (fun _ => 0)))] ++ [(a10, .inl (cI, 480, .inl (fun _ => 0)))] ++ [(a11, .inl (cI, 16, .inl (fun _ => 0)))]) _ _ := hI
  refine xn_putF (own := RX9) (C := RX9) (T := TX9) (N := 22) (ci := 9) (ty := .array .int) (v := .ref a11) hx hb hown hG hI 0 rfl rfl inX9 tyX9 tyX9_ok nmX9 14 (by decide) kf_X9_40 rfl hin rfl (by decide +kernel) rfl rfl (Nat.le_of_ble_eq_true rfl) dX9_init_97 (fun H locs hI => ?_)
  have hI : xI D (va_A [(q, .inr (9, [.null, .null, .null, .null, .int 0, .null, .null, .int 0, .null, .null, .null, .int 0, .null, .int 0, .null, .null, .null, .int 0, .null, .int 0, .int 0, .int 0]))] s.heap.size) s.heap ([(q, .inr (9, [.ref a1, .ref a2, .ref a3, .ref a4, .int 0, .ref a5, .ref a6, .int 0, .ref a7, .ref a8, .ref a9, .int 0, .ref a10, .int 0, .ref a11, .null, .null, .int 0, .null, .int 0, .int 0, .int 0]))] ++ [(a1, .inl (cI, 258, .inl (fun _ => 0)))] ++ [(a2, .inl (cI, 258, .inl (fun _ => 0)))] ++ [(a3, .inl (cI, 258, .inl (fun _ => 0)))] ++ [(a4, .inl (cI, 1290, .inl (fun _ => 0)))] ++ [(a5, .inl (cI, 3, .inl (fun _ => 0)))] ++ [(a6, .inl (cI, 150, .inl (fun _ => 0)))] ++ [(a7, .inl (cI, 150, .inl (fun _ => 0)))] ++ [(a8, .inl (cI, 151, .inl (fun _ => 0)))] ++ [(a9, .inl (cI, 150, .inl (fun _ => 0)))] ++ [(a10, .inl (cI, 480, .inl (fun _ => 0)))] ++ [(a11, .inl (cI, 16, .inl (fun _ => 0)))]) _ _ := hI
  refine lv_aload_n hx hb dX9_init_100 rfl (lv_at hl 0 rfl) ?_
  refine lv_bipush (v := 16) hx hb dX9_init_101 (by decide) ?_
  refine xn_newI (N' := 16) hx hb hG hI xA_of 0 rfl (by decide) (by decide) (Nat.le_of_ble_eq_true rfl) (Nat.le_of_ble_eq_true rfl) (Nat.le_of_ble_eq_true rfl) dX9_init_103 (fun a12 H hI => ?_)
  have hI : xI D (va_A [(q, .inr (9, [.null, .null, .null, .null, .int 0, .null, .null, .int 0, .null, .null, .null, .int 0, .null, .int 0, .null, .null, .null, .int 0, .null, .int 0, .int 0, .int 0]))] s.heap.size) s.heap ([(q, .inr (9, [.ref a1, .ref a2, .ref a3, .ref a4, .int 0, .ref a5, .ref a6, .int 0, .ref a7, .ref a8, .ref a9, .int 0, .ref a10, .int 0, .ref a11, .null, .null, .int 0, .null, .int 0, .int 0, .int 0]))] ++ [(a1, .inl (cI, 258, .inl (fun _ => 0)))] ++ [(a2, .inl (cI, 258, .inl (fun _ => 0)))] ++ [(a3, .inl (cI, 258, .inl (fun _ => 0)))] ++ [(a4, .inl (cI, 1290, .inl (fun _ => 0)))] ++ [(a5, .inl (cI, 3, .inl (fun _ => 0)))] ++ [(a6, .inl (cI, 150, .inl (fun _ => 0)))] ++ [(a7, .inl (cI, 150, .inl (fun _ => 0)))] ++ [(a8, .inl (cI, 151, .inl (fun _ => 0)))] ++ [(a9, .inl (cI, 150, .inl (fun _ => 0)))] ++ [(a10, .inl (cI, 480, .inl (fun _ => 0)))] ++ [(a11, .inl (cI, 16, .inl (fun _ => 0)))] ++ [(a12, .inl (cI, 16, .inl (fun _ => 0)))]) _ _ := hI
  refine xn_putF (own := RX9) (C := RX9) (T := TX9) (N := 22) (ci := 9) (ty := .array .int) (v := .ref a12) hx hb hown hG hI 0 rfl rfl inX9 tyX9 tyX9_ok nmX9 15 (by decide) kf_X9_43 rfl hin rfl (by decide +kernel) rfl rfl (Nat.le_of_ble_eq_true rfl) dX9_init_105 (fun H locs hI => ?_)
  have hI : xI D (va_A [(q, .inr (9, [.null, .null, .null, .null, .int 0, .null, .null, .int 0, .null, .null, .null, .int 0, .null, .int 0, .null, .null, .null, .int 0, .null, .int 0, .int 0, .int 0]))] s.heap.size) s.heap ([(q, .inr (9, [.ref a1, .ref a2, .ref a3, .ref a4, .int 0, .ref a5, .ref a6, .int 0, .ref a7, .ref a8, .ref a9, .int 0, .ref a10, .int 0, .ref a11, .ref a12, .null, .int 0, .null, .int 0, .int 0, .int 0]))] ++ [(a1, .inl (cI, 258, .inl (fun _ => 0)))] ++ [(a2, .inl (cI, 258, .inl (fun _ => 0)))] ++ [(a3, .inl (cI, 258, .inl (fun _ => 0)))] ++ [(a4, .inl (cI, 1290, .inl (fun _ => 0)))] ++ [(a5, .inl (cI, 3, .inl (fun _ => 0)))] ++ [(a6, .inl (cI, 150, .inl (fun _ => 0)))] ++ [(a7, .inl (cI, 150, .inl (fun _ => 0)))] ++ [(a8, .inl (cI, 151, .inl (fun _ => 0)))] ++ [(a9, .inl (cI, 150, .inl (fun _ => 0)))] ++ [(a10, .inl (cI, 480, .inl (fun _ => 0)))] ++ [(a11, .inl (cI, 16, .inl (fun _ => 0)))] ++ [(a12, .inl (cI, 16, .inl (fun _ => 0)))]) _ _ := hI
  refine lv_aload_n hx hb dX9_init_108 rfl (lv_at hl 0 rfl) ?_
  refine lv_bipush (v := 96) hx hb dX9_init_109 (by decide) ?_
  refine xn_newI (N' := 96) hx hb hG hI xA_of 0 rfl (by decide) (by decide) (Nat.le_of_ble_eq_true rfl) (Nat.le_of_ble_eq_true rfl) (Nat.le_of_ble_eq_true rfl) dX9_init_111 (fun a13 H hI => ?_)
  have hI : xI D (va_A [(q, .inr (9, [.null, .null, .null, .null, .int 0, .null, .null, .int 0, .null, .null, .null, .int 0, .null, .int 0, .null, .null, .null, .int 0, .null, .int 0, .int 0, .int 0]))] s.heap.size) s.heap ([(q, .inr (9, [.ref a1, .ref a2, .ref a3, .ref a4, .int 0, .ref a5, .ref a6, .int 0, .ref a7, .ref a8, .ref a9, .int 0, .ref a10, .int 0, .ref a11, .ref a12, .null, .int 0, .null, .int 0, .int 0, .int 0]))] ++ [(a1, .inl (cI, 258, .inl (fun _ => 0)))] ++ [(a2, .inl (cI, 258, .inl (fun _ => 0)))] ++ [(a3, .inl (cI, 258, .inl (fun _ => 0)))] ++ [(a4, .inl (cI, 1290, .inl (fun _ => 0)))] ++ [(a5, .inl (cI, 3, .inl (fun _ => 0)))] ++ [(a6, .inl (cI, 150, .inl (fun _ => 0)))] ++ [(a7, .inl (cI, 150, .inl (fun _ => 0)))] ++ [(a8, .inl (cI, 151, .inl (fun _ => 0)))] ++ [(a9, .inl (cI, 150, .inl (fun _ => 0)))] ++ [(a10, .inl (cI, 480, .inl (fun _ => 0)))] ++ [(a11, .inl (cI, 16, .inl (fun _ => 0)))] ++ [(a12, .inl (cI, 16, .inl (fun _ => 0)))] ++ [(a13, .inl (cI, 96, .inl (fun _ => 0)))]) _ _ := hI
  refine xn_putF (own := RX9) (C := RX9) (T := TX9) (N := 22) (ci := 9) (ty := .array .int) (v := .ref a13) hx hb hown hG hI 0 rfl rfl inX9 tyX9 tyX9_ok nmX9 16 (by decide) kf_X9_46 rfl hin rfl (by decide +kernel) rfl rfl (Nat.le_of_ble_eq_true rfl) dX9_init_113 (fun H locs hI => ?_)
  have hI : xI D (va_A [(q, .inr (9, [.null, .null, .null, .null, .int 0, .null, .null, .int 0, .null, .null, .null, .int 0, .null, .int 0, .null, .null, .null, .int 0, .null, .int 0, .int 0, .int 0]))] s.heap.size) s.heap ([(q, .inr (9, [.ref a1, .ref a2, .ref a3, .ref a4, .int 0, .ref a5, .ref a6, .int 0, .ref a7, .ref a8, .ref a9, .int 0, .ref a10, .int 0, .ref a11, .ref a12, .ref a13, .int 0, .null, .int 0, .int 0, .int 0]))] ++ [(a1, .inl (cI, 258, .inl (fun _ => 0)))] ++ [(a2, .inl (cI, 258, .inl (fun _ => 0)))] ++ [(a3, .inl (cI, 258, .inl (fun _ => 0)))] ++ [(a4, .inl (cI, 1290, .inl (fun _ => 0)))] ++ [(a5, .inl (cI, 3, .inl (fun _ => 0)))] ++ [(a6, .inl (cI, 150, .inl (fun _ => 0)))] ++ [(a7, .inl (cI, 150, .inl (fun _ => 0)))] ++ [(a8, .inl (cI, 151, .inl (fun _ => 0)))] ++ [(a9, .inl (cI, 150, .inl (fun _ => 0)))] ++ [(a10, .inl (cI, 480, .inl (fun _ => 0)))] ++ [(a11, .inl (cI, 16, .inl (fun _ => 0)))] ++ [(a12, .inl (cI, 16, .inl (fun _ => 0)))] ++ [(a13, .inl (cI, 96, .inl (fun _ => 0)))]) _ _ := hI
  refine lv_aload_n hx hb dX9_init_116 rfl (lv_at hl 0 rfl) ?_
  refine lv_bipush (v := 16) hx hb dX9_init_117 (by decide) ?_
  refine xn_newI (N' := 16) hx hb hG hI xA_of 0 rfl (by decide) (by decide) (Nat.le_of_ble_eq_true rfl) (Nat.le_of_ble_eq_true rfl) (Nat.le_of_ble_eq_true rfl) dX9_init_119 (fun a14 H hI => ?_)
  have hI : xI D (va_A [(q, .inr (9, [.null, .null, .null, .null, .int 0, .null, .null, .int 0, .null, .null, .null, .int 0, .null, .int 0, .null, .null, .null, .int 0, .null, .int 0, .int 0, .int 0]))] s.heap.size) s.heap ([(q, .inr (9, [.ref a1, .ref a2, .ref a3, .ref a4, .int 0, .ref a5, .ref a6, .int 0, .ref a7, .ref a8, .ref a9, .int 0, .ref a10, .int 0, .ref a11, .ref a12, .ref a13, .int 0, .null, .int 0, .int 0, .int 0]))] ++ [(a1, .inl (cI, 258, .inl (fun _ => 0)))] ++ [(a2, .inl (cI, 258, .inl (fun _ => 0)))] ++ [(a3, .inl (cI, 258, .inl (fun _ => 0)))] ++ [(a4, .inl (cI, 1290, .inl (fun _ => 0)))] ++ [(a5, .inl (cI, 3, .inl (fun _ => 0)))] ++ [(a6, .inl (cI, 150, .inl (fun _ => 0)))] ++ [(a7, .inl (cI, 150, .inl (fun _ => 0)))] ++ [(a8, .inl (cI, 151, .inl (fun _ => 0)))] ++ [(a9, .inl (cI, 150, .inl (fun _ => 0)))] ++ [(a10, .inl (cI, 480, .inl (fun _ => 0)))] ++ [(a11, .inl (cI, 16, .inl (fun _ => 0)))] ++ [(a12, .inl (cI, 16, .inl (fun _ => 0)))] ++ [(a13, .inl (cI, 96, .inl (fun _ => 0)))] ++ [(a14, .inl (cI, 16, .inl (fun _ => 0)))]) _ _ := hI
  refine xn_putF (own := RX9) (C := RX9) (T := TX9) (N := 22) (ci := 9) (ty := .array .int) (v := .ref a14) hx hb hown hG hI 0 rfl rfl inX9 tyX9 tyX9_ok nmX9 18 (by decide) kf_X9_49 rfl hin rfl (by decide +kernel) rfl rfl (Nat.le_of_ble_eq_true rfl) dX9_init_121 (fun H locs hI => ?_)
  have hI : xI D (va_A [(q, .inr (9, [.null, .null, .null, .null, .int 0, .null, .null, .int 0, .null, .null, .null, .int 0, .null, .int 0, .null, .null, .null, .int 0, .null, .int 0, .int 0, .int 0]))] s.heap.size) s.heap ([(q, .inr (9, [.ref a1, .ref a2, .ref a3, .ref a4, .int 0, .ref a5, .ref a6, .int 0, .ref a7, .ref a8, .ref a9, .int 0, .ref a10, .int 0, .ref a11, .ref a12, .ref a13, .int 0, .ref a14, .int 0, .int 0, .int 0]))] ++ [(a1, .inl (cI, 258, .inl (fun _ => 0)))] ++ [(a2, .inl (cI, 258, .inl (fun _ => 0)))] ++ [(a3, .inl (cI, 258, .inl (fun _ => 0)))] ++ [(a4, .inl (cI, 1290, .inl (fun _ => 0)))] ++ [(a5, .inl (cI, 3, .inl (fun _ => 0)))] ++ [(a6, .inl (cI, 150, .inl (fun _ => 0)))] ++ [(a7, .inl (cI, 150, .inl (fun _ => 0)))] ++ [(a8, .inl (cI, 151, .inl (fun _ => 0)))] ++ [(a9, .inl (cI, 150, .inl (fun _ => 0)))] ++ [(a10, .inl (cI, 480, .inl (fun _ => 0)))] ++ [(a11, .inl (cI, 16, .inl (fun _ => 0)))] ++ [(a12, .inl (cI, 16, .inl (fun _ => 0)))] ++ [(a13, .inl (cI, 96, .inl (fun _ => 0)))] ++ [(a14, .inl (cI, 16, .inl (fun _ => 0)))]) _ _ := hI
  have hI : xI D (va_A [(q, .inr (9, [.null, .null, .null, .null, .int 0, .null, .null, .int 0, .null, .null, .null, .int 0, .null, .int 0, .null, .null, .null, .int 0, .null, .int 0, .int 0, .int 0]))] s.heap.size) s.heap (wY ((fun i => match i with | 0 => q | k + 1 => (fun i => match i with | 0 => a1 | 1 => a2 | 2 => a3 | 3 => a4 | 4 => a5 | 5 => a6 | 6 => a7 | 7 => a8 | 8 => a9 | 9 => a10 | 10 => a11 | 11 => a12 | 12 => a13 | _ => a14 : Nat → Nat) k)) cI (v00 (fun _ => 0))) _ _ := hI
  rw [← fN_0] at hI
  refine lv_iconst (v := 0) hx hb dX9_init_124 (by decide) ?_
  refine lv_istore_n (lv' := [(1, .int (nI 0)), (0, .ref q)]) hx hb dX9_init_125 rfl hl (by decide) rfl (fun ls hl => ?_)
  refine x9_outer (B := (fun i => match i with | 0 => q | k + 1 => (fun i => match i with | 0 => a1 | 1 => a2 | 2 => a3 | 3 => a4 | 4 => a5 | 5 => a6 | 6 => a7 | 7 => a8 | 8 => a9 | 9 => a10 | 10 => a11 | 11 => a12 | 12 => a13 | _ => a14 : Nat → Nat) k)) hx hb hown hG 4 0 rfl _ _ ls hl hI (fun H locs ls hl hI => ?_)
  refine lv_aload_n hx hb dX9_init_172 rfl (lv_at hl 1 rfl) ?_
  refine xy_get hx hb hown hG hI dX9_init_173 ?_
  refine lv_sipush (v := 256) hx hb dX9_init_176 (by decide) ?_
  refine lv_iconst (v := 1) hx hb dX9_init_179 (by decide) ?_
  refine xy_st hx hb hG hI (i := 256) rfl (by decide) rfl dX9_init_180 (fun H locs hI => ?_)
  refine lv_aload_n hx hb dX9_init_181 rfl (lv_at hl 1 rfl) ?_
  refine xy_get hx hb hown hG hI dX9_init_182 ?_
  refine lv_sipush (v := 257) hx hb dX9_init_185 (by decide) ?_
  refine lv_iconst (v := 1) hx hb dX9_init_188 (by decide) ?_
  refine xy_st hx hb hG hI (i := 257) rfl (by decide) rfl dX9_init_189 (fun H locs hI => ?_)
  exact xr_I (fun i => match i with | 0 => a1 | 1 => a2 | 2 => a3 | 3 => a4 | 4 => a5 | 5 => a6 | 6 => a7 | 7 => a8 | 8 => a9 | 9 => a10 | 10 => a11 | 11 => a12 | 12 => a13 | _ => a14) hx hb hr hlk hG hI (Nat.le_of_ble_eq_true rfl) (Nat.le_of_ble_eq_true rfl) dX9_init_190
