/-! ===== PHASE A: the maker of the object (printed by wip/whole/mkparts.py) ===== -/
def wAll (cI cZ cD : ClassId) (q : Nat) (B : Nat → Nat) : va_W := [(q, .inr (8, [.ref (B 0), .ref (B 7), .ref (B 14), .ref (B 51), .ref (B 67), .ref (B 72), .ref (B 76), .int 0, .int 0, .int 0]))] ++ wDesk cI (B 0) (fun i => B (1 + i)) ++ wDesk cI (B 7) (fun i => B (8 + i)) ++ wHis cI cD (B 14) (fun i => B (15 + i)) ++ wMer cI cZ (B 51) (fun i => B (52 + i)) ++ wScr cI (B 67) (fun i => B (68 + i)) ++ wMat cI cZ (B 72) (fun i => B (73 + i)) ++ wTyp cI (B 76) (fun i => B (77 + i))
section GL
variable {cI cZ cD : ClassId} {q : Nat} {B C : Nat → Nat}
theorem wDesk_c (h : ∀ i, i < 6 → B i = C i) : wDesk cI q B = wDesk cI q C := by
  unfold wDesk
  rw [h 0 (by decide), h 1 (by decide), h 2 (by decide), h 3 (by decide), h 4 (by decide), h 5 (by decide)]
theorem wTab_c {N : Nat} (h : ∀ i, i < 3 → B i = C i) : wTab cI N q B = wTab cI N q C := by
  unfold wTab
  rw [h 0 (by decide), h 1 (by decide), h 2 (by decide)]
theorem wScr_c (h : ∀ i, i < 4 → B i = C i) : wScr cI q B = wScr cI q C := by
  unfold wScr
  rw [h 0 (by decide), wTab_c (B := fun i => B (1 + i)) (C := fun i => C (1 + i)) (fun i hi => h (1 + i) (by omega))]
theorem wMat_c (h : ∀ i, i < 3 → B i = C i) : wMat cI cZ q B = wMat cI cZ q C := by
  unfold wMat
  rw [h 0 (by decide), h 1 (by decide), h 2 (by decide)]
theorem wTyp_c (h : ∀ i, i < 2 → B i = C i) : wTyp cI q B = wTyp cI q C := by
  unfold wTyp
  rw [h 0 (by decide), h 1 (by decide)]
theorem wMer_c (h : ∀ i, i < 15 → B i = C i) : wMer cI cZ q B = wMer cI cZ q C := by
  unfold wMer
  rw [h 0 (by decide), h 7 (by decide), h 8 (by decide), h 9 (by decide), h 13 (by decide), h 14 (by decide), wDesk_c (B := fun i => B (1 + i)) (C := fun i => C (1 + i)) (fun i hi => h (1 + i) (by omega)), wTab_c (B := fun i => B (10 + i)) (C := fun i => C (10 + i)) (fun i hi => h (10 + i) (by omega))]
theorem wHis_c (h : ∀ i, i < 36 → B i = C i) : wHis cI cD q B = wHis cI cD q C := by
  have e : (fun k => if k < 5 then some (B (1 + 7 * k)) else none) = (fun k => if k < 5 then some (C (1 + 7 * k)) else none) := by
    funext k
    by_cases hk : k < 5
    · rw [if_pos hk, if_pos hk, h (1 + 7 * k) (by omega)]
    · rw [if_neg hk, if_neg hk]
  unfold wHis
  rw [e, h 0 (by decide), h 1 (by decide), h 8 (by decide), h 15 (by decide), h 22 (by decide), h 29 (by decide), wDesk_c (B := fun i => B (2 + i)) (C := fun i => C (2 + i)) (fun i hi => h (2 + i) (by omega)), wDesk_c (B := fun i => B (9 + i)) (C := fun i => C (9 + i)) (fun i hi => h (9 + i) (by omega)), wDesk_c (B := fun i => B (16 + i)) (C := fun i => C (16 + i)) (fun i hi => h (16 + i) (by omega)), wDesk_c (B := fun i => B (23 + i)) (C := fun i => C (23 + i)) (fun i hi => h (23 + i) (by omega)), wDesk_c (B := fun i => B (30 + i)) (C := fun i => C (30 + i)) (fun i hi => h (30 + i) (by omega))]
def gl (n : Nat) (f g : Nat → Nat) : Nat → Nat := fun i => if i < n then f i else g (i - n)
theorem gl_l {n i : Nat} {f g : Nat → Nat} (h : i < n) : gl n f g i = f i := if_pos h
theorem gl_r (n i : Nat) (f g : Nat → Nat) : gl n f g (n + i) = g i := by
  unfold gl
  rw [if_neg (by omega), show n + i - n = i by omega]
theorem wAll_j {o1 o3 o5 o7 o9 o11 o13 : Nat} {B2 B4 B6 B8 B10 B12 B14 : Nat → Nat} : wAll cI cZ cD q (gl 1 (fun _ => o1) (gl 6 B2 (gl 1 (fun _ => o3) (gl 6 B4 (gl 1 (fun _ => o5) (gl 36 B6 (gl 1 (fun _ => o7) (gl 15 B8 (gl 1 (fun _ => o9) (gl 4 B10 (gl 1 (fun _ => o11) (gl 3 B12 (gl 1 (fun _ => o13) B14))))))))))))) = [(q, .inr (8, [.ref o1, .ref o3, .ref o5, .ref o7, .ref o9, .ref o11, .ref o13, .int 0, .int 0, .int 0]))] ++ wDesk cI o1 B2 ++ wDesk cI o3 B4 ++ wHis cI cD o5 B6 ++ wMer cI cZ o7 B8 ++ wScr cI o9 B10 ++ wMat cI cZ o11 B12 ++ wTyp cI o13 B14 := by
  unfold wAll
  refine (congr (congrArg HAppend.hAppend (congr (congrArg HAppend.hAppend (congr (congrArg HAppend.hAppend (congr (congrArg HAppend.hAppend (congr (congrArg HAppend.hAppend (congr (congrArg HAppend.hAppend (congr (congrArg HAppend.hAppend ?_) ?_)) ?_)) ?_)) ?_)) ?_)) ?_)) ?_)
  · rfl
  · exact wDesk_c (fun i hi => by rw [gl_r, gl_l hi])
  · exact wDesk_c (fun i hi => by rw [show 8 + i = 1 + (6 + (1 + i)) by omega, gl_r, gl_r, gl_r, gl_l hi])
  · exact wHis_c (fun i hi => by rw [show 15 + i = 1 + (6 + (1 + (6 + (1 + i)))) by omega, gl_r, gl_r, gl_r, gl_r, gl_r, gl_l hi])
  · exact wMer_c (fun i hi => by rw [show 52 + i = 1 + (6 + (1 + (6 + (1 + (36 + (1 + i)))))) by omega, gl_r, gl_r, gl_r, gl_r, gl_r, gl_r, gl_r, gl_l hi])
  · exact wScr_c (fun i hi => by rw [show 68 + i = 1 + (6 + (1 + (6 + (1 + (36 + (1 + (15 + (1 + i)))))))) by omega, gl_r, gl_r, gl_r, gl_r, gl_r, gl_r, gl_r, gl_r, gl_r, gl_l hi])
  · exact wMat_c (fun i hi => by rw [show 73 + i = 1 + (6 + (1 + (6 + (1 + (36 + (1 + (15 + (1 + (4 + (1 + i)))))))))) by omega, gl_r, gl_r, gl_r, gl_r, gl_r, gl_r, gl_r, gl_r, gl_r, gl_r, gl_r, gl_l hi])
  · exact wTyp_c (fun i hi => by rw [show 77 + i = 1 + (6 + (1 + (6 + (1 + (36 + (1 + (15 + (1 + (4 + (1 + (3 + (1 + i)))))))))))) by omega, gl_r, gl_r, gl_r, gl_r, gl_r, gl_r, gl_r, gl_r, gl_r, gl_r, gl_r, gl_r, gl_r])
end GL
set_option maxHeartbeats 4000000 in
set_option maxRecDepth 100000 in
theorem c_X8_init {l : Launch} {D : va_G} {cI cZ cD : ClassId} {q : Nat} : CtI l yX8_init cX8_init 1 5 105 79 3547 D (tyL cI cZ cD) [.ref q] [(q, .inr (8, [.null, .null, .null, .null, .null, .null, .null, .int 0, .int 0, .int 0]))] (fun B => wAll cI cZ cD q B) := by
  refine CtI.ofW (by decide +kernel) (fun p e s m below meth c hC hin hO hI => ?_)
  obtain ⟨hx, hb, hml, hown, hr, hlk, hG⟩ := hC
  have hown : s.vm.findClass RX8 = some m.cls := hown
  have hin : meth.name = "<init>" := hin
  have hl := lv_entry ([.ref q] : List Value) (n := 1) (Nat.le_of_ble_eq_true rfl)
  rw [lg_entry_eq]
  generalize (lg_sl ([.ref q] : List Value) ++ List.replicate (1 - (lg_sl ([.ref q] : List Value)).length) Slot.unset).toArray = ls at hl ⊢
  have hl : lv_has ls 1 [(0, .ref q)] := hl
  refine lv_aload_n hx hb dX8_init_0 rfl (lv_at hl 0 rfl) ?_
  refine xn_obj (rest := []) hx hb hml hl.1 hown hG km_X8_3 dX8_init_1 (Nat.le_of_ble_eq_true rfl) (Nat.le_of_ble_eq_true rfl) ?_
  refine lv_aload_n hx hb dX8_init_4 rfl (lv_at hl 0 rfl) ?_
  refine xn_new (ci := 0) (fs := [.null, .null, .null, .int 0, .int 0]) (C := RX0) (T := TX0) (N := 5) hx hb hown hG hI xA_of inX0 tyX0 tyX0_ok kcl_X8_9 kn_X0 ki_X0 rfl (fun j hj => by rcases (show j = 0 ∨ j = 1 ∨ j = 2 ∨ j = 3 ∨ j = 4 by omega) with rfl | rfl | rfl | rfl | rfl <;> rfl) (Nat.le_of_ble_eq_true rfl) (Nat.le_of_ble_eq_true rfl) dX8_init_5 (fun o1 H hI => ?_)
  refine lv_dup hx hb dX8_init_8 rfl ?_
  refine xi_IN (ws := [(q, .inr (8, [.null, .null, .null, .null, .null, .null, .null, .int 0, .int 0, .int 0]))]) (w0 := [(o1, .inr (0, [.null, .null, .null, .int 0, .int 0]))]) (As := []) (rest := [.ref o1, .ref q]) (c_X0_init (cI := cI) (cZ := cZ) (cD := cD)) mwc_X0_init ki_X0 mwi_X0_init rfl (by decide) (by decide) (by decide +kernel) km_X8_11 hx hb hml hown hG hO hI xA_of ⟨(Nat.le_of_ble_eq_true rfl), (Nat.le_of_ble_eq_true rfl)⟩ ⟨(Nat.le_of_ble_eq_true rfl), (Nat.le_of_ble_eq_true rfl)⟩ rfl hl.1 rfl (Nat.le_of_ble_eq_true rfl) dX8_init_9 (fun B2 H locs hI => ?_)
  have hI : xI D (va_A [(q, .inr (8, [.null, .null, .null, .null, .null, .null, .null, .int 0, .int 0, .int 0]))] s.heap.size) s.heap ([(q, .inr (8, [.null, .null, .null, .null, .null, .null, .null, .int 0, .int 0, .int 0]))] ++ wDesk cI o1 B2) _ _ := hI
  refine xn_putF (own := RX8) (C := RX8) (T := TX8) (N := 10) (ci := 8) (ty := .object "MergedOutline$Desk") (v := .ref o1) hx hb hown hG hI 0 rfl rfl inX8 tyX8 tyX8_ok nmX8 0 (by decide) kf_X8_12 rfl hin rfl (by decide +kernel) rfl rfl (Nat.le_of_ble_eq_true rfl) dX8_init_12 (fun H locs hI => ?_)
  have hI : xI D (va_A [(q, .inr (8, [.null, .null, .null, .null, .null, .null, .null, .int 0, .int 0, .int 0]))] s.heap.size) s.heap ([(q, .inr (8, [.ref o1, .null, .null, .null, .null, .null, .null, .int 0, .int 0, .int 0]))] ++ wDesk cI o1 B2) _ _ := hI
  refine lv_aload_n hx hb dX8_init_15 rfl (lv_at hl 0 rfl) ?_
  refine xn_new (ci := 0) (fs := [.null, .null, .null, .int 0, .int 0]) (C := RX0) (T := TX0) (N := 5) hx hb hown hG hI xA_of inX0 tyX0 tyX0_ok kcl_X8_9 kn_X0 ki_X0 rfl (fun j hj => by rcases (show j = 0 ∨ j = 1 ∨ j = 2 ∨ j = 3 ∨ j = 4 by omega) with rfl | rfl | rfl | rfl | rfl <;> rfl) (Nat.le_of_ble_eq_true rfl) (Nat.le_of_ble_eq_true rfl) dX8_init_16 (fun o3 H hI => ?_)
  refine lv_dup hx hb dX8_init_19 rfl ?_
  refine xi_IN (ws := [(q, .inr (8, [.ref o1, .null, .null, .null, .null, .null, .null, .int 0, .int 0, .int 0]))] ++ wDesk cI o1 B2) (w0 := [(o3, .inr (0, [.null, .null, .null, .int 0, .int 0]))]) (As := []) (rest := [.ref o3, .ref q]) (c_X0_init (cI := cI) (cZ := cZ) (cD := cD)) mwc_X0_init ki_X0 mwi_X0_init rfl (by decide) (by decide) (by decide +kernel) km_X8_11 hx hb hml hown hG hO hI xA_of ⟨(Nat.le_of_ble_eq_true rfl), (Nat.le_of_ble_eq_true rfl)⟩ ⟨(Nat.le_of_ble_eq_true rfl), (Nat.le_of_ble_eq_true rfl)⟩ rfl hl.1 rfl (Nat.le_of_ble_eq_true rfl) dX8_init_20 (fun B4 H locs hI => ?_)
  have hI : xI D (va_A [(q, .inr (8, [.null, .null, .null, .null, .null, .null, .null, .int 0, .int 0, .int 0]))] s.heap.size) s.heap ([(q, .inr (8, [.ref o1, .null, .null, .null, .null, .null, .null, .int 0, .int 0, .int 0]))] ++ wDesk cI o1 B2 ++ wDesk cI o3 B4) _ _ := hI
  refine xn_putF (own := RX8) (C := RX8) (T := TX8) (N := 10) (ci := 8) (ty := .object "MergedOutline$Desk") (v := .ref o3) hx hb hown hG hI 0 rfl rfl inX8 tyX8 tyX8_ok nmX8 1 (by decide) kf_X8_16 rfl hin rfl (by decide +kernel) rfl rfl (Nat.le_of_ble_eq_true rfl) dX8_init_23 (fun H locs hI => ?_)
  have hI : xI D (va_A [(q, .inr (8, [.null, .null, .null, .null, .null, .null, .null, .int 0, .int 0, .int 0]))] s.heap.size) s.heap ([(q, .inr (8, [.ref o1, .ref o3, .null, .null, .null, .null, .null, .int 0, .int 0, .int 0]))] ++ wDesk cI o1 B2 ++ wDesk cI o3 B4) _ _ := hI
  refine lv_aload_n hx hb dX8_init_26 rfl (lv_at hl 0 rfl) ?_
  refine xn_new (ci := 1) (fs := [.null, .int 0, .int 0]) (C := RX1) (T := TX1) (N := 3) hx hb hown hG hI xA_of inX1 tyX1 tyX1_ok kcl_X8_19 kn_X1 ki_X1 rfl (fun j hj => by rcases (show j = 0 ∨ j = 1 ∨ j = 2 by omega) with rfl | rfl | rfl <;> rfl) (Nat.le_of_ble_eq_true rfl) (Nat.le_of_ble_eq_true rfl) dX8_init_27 (fun o5 H hI => ?_)
  refine lv_dup hx hb dX8_init_30 rfl ?_
  refine xi_I (ws := [(q, .inr (8, [.ref o1, .ref o3, .null, .null, .null, .null, .null, .int 0, .int 0, .int 0]))] ++ wDesk cI o1 B2 ++ wDesk cI o3 B4) (w0 := [(o5, .inr (1, [.null, .int 0, .int 0]))]) (As := []) (rest := [.ref o5, .ref q]) (c_X1_init (cI := cI) (cZ := cZ) (cD := cD)) mwc_X1_init ki_X1 mwi_X1_init rfl (by decide) (by decide) (by decide +kernel) km_X8_21 hx hb hml hown hG hO hI xA_of ⟨(Nat.le_of_ble_eq_true rfl), (Nat.le_of_ble_eq_true rfl)⟩ ⟨(Nat.le_of_ble_eq_true rfl), (Nat.le_of_ble_eq_true rfl)⟩ rfl hl.1 rfl (Nat.le_of_ble_eq_true rfl) dX8_init_31 (fun B6 H locs hI => ?_)
  have hI : xI D (va_A [(q, .inr (8, [.null, .null, .null, .null, .null, .null, .null, .int 0, .int 0, .int 0]))] s.heap.size) s.heap ([(q, .inr (8, [.ref o1, .ref o3, .null, .null, .null, .null, .null, .int 0, .int 0, .int 0]))] ++ wDesk cI o1 B2 ++ wDesk cI o3 B4 ++ wHis cI cD o5 B6) _ _ := hI
  refine xn_putF (own := RX8) (C := RX8) (T := TX8) (N := 10) (ci := 8) (ty := .object "MergedOutline$History") (v := .ref o5) hx hb hown hG hI 0 rfl rfl inX8 tyX8 tyX8_ok nmX8 2 (by decide) kf_X8_22 rfl hin rfl (by decide +kernel) rfl rfl (Nat.le_of_ble_eq_true rfl) dX8_init_34 (fun H locs hI => ?_)
  have hI : xI D (va_A [(q, .inr (8, [.null, .null, .null, .null, .null, .null, .null, .int 0, .int 0, .int 0]))] s.heap.size) s.heap ([(q, .inr (8, [.ref o1, .ref o3, .ref o5, .null, .null, .null, .null, .int 0, .int 0, .int 0]))] ++ wDesk cI o1 B2 ++ wDesk cI o3 B4 ++ wHis cI cD o5 B6) _ _ := hI
  refine lv_aload_n hx hb dX8_init_37 rfl (lv_at hl 0 rfl) ?_
  refine xn_new (ci := 3) (fs := [.null, .null, .null, .null, .null, .int 0]) (C := RX3) (T := TX3) (N := 6) hx hb hown hG hI xA_of inX3 tyX3 tyX3_ok kcl_X8_26 kn_X3 ki_X3 rfl (fun j hj => by rcases (show j = 0 ∨ j = 1 ∨ j = 2 ∨ j = 3 ∨ j = 4 ∨ j = 5 by omega) with rfl | rfl | rfl | rfl | rfl | rfl <;> rfl) (Nat.le_of_ble_eq_true rfl) (Nat.le_of_ble_eq_true rfl) dX8_init_38 (fun o7 H hI => ?_)
  refine lv_dup hx hb dX8_init_41 rfl ?_
  refine xi_IN (ws := [(q, .inr (8, [.ref o1, .ref o3, .ref o5, .null, .null, .null, .null, .int 0, .int 0, .int 0]))] ++ wDesk cI o1 B2 ++ wDesk cI o3 B4 ++ wHis cI cD o5 B6) (w0 := [(o7, .inr (3, [.null, .null, .null, .null, .null, .int 0]))]) (As := []) (rest := [.ref o7, .ref q]) (c_X3_init (cI := cI) (cZ := cZ) (cD := cD)) mwc_X3_init ki_X3 mwi_X3_init rfl (by decide) (by decide) (by decide +kernel) km_X8_28 hx hb hml hown hG hO hI xA_of ⟨(Nat.le_of_ble_eq_true rfl), (Nat.le_of_ble_eq_true rfl)⟩ ⟨(Nat.le_of_ble_eq_true rfl), (Nat.le_of_ble_eq_true rfl)⟩ rfl hl.1 rfl (Nat.le_of_ble_eq_true rfl) dX8_init_42 (fun B8 H locs hI => ?_)
  have hI : xI D (va_A [(q, .inr (8, [.null, .null, .null, .null, .null, .null, .null, .int 0, .int 0, .int 0]))] s.heap.size) s.heap ([(q, .inr (8, [.ref o1, .ref o3, .ref o5, .null, .null, .null, .null, .int 0, .int 0, .int 0]))] ++ wDesk cI o1 B2 ++ wDesk cI o3 B4 ++ wHis cI cD o5 B6 ++ wMer cI cZ o7 B8) _ _ := hI
  refine xn_putF (own := RX8) (C := RX8) (T := TX8) (N := 10) (ci := 8) (ty := .object "MergedOutline$Merger") (v := .ref o7) hx hb hown hG hI 0 rfl rfl inX8 tyX8 tyX8_ok nmX8 3 (by decide) kf_X8_29 rfl hin rfl (by decide +kernel) rfl rfl (Nat.le_of_ble_eq_true rfl) dX8_init_45 (fun H locs hI => ?_)
  have hI : xI D (va_A [(q, .inr (8, [.null, .null, .null, .null, .null, .null, .null, .int 0, .int 0, .int 0]))] s.heap.size) s.heap ([(q, .inr (8, [.ref o1, .ref o3, .ref o5, .ref o7, .null, .null, .null, .int 0, .int 0, .int 0]))] ++ wDesk cI o1 B2 ++ wDesk cI o3 B4 ++ wHis cI cD o5 B6 ++ wMer cI cZ o7 B8) _ _ := hI
  refine lv_aload_n hx hb dX8_init_48 rfl (lv_at hl 0 rfl) ?_
  refine xn_new (ci := 5) (fs := [.null]) (C := RX5) (T := TX5) (N := 1) hx hb hown hG hI xA_of inX5 tyX5 tyX5_ok kcl_X8_33 kn_X5 ki_X5 rfl (fun j hj => by rcases (show j = 0 by omega) with rfl <;> rfl) (Nat.le_of_ble_eq_true rfl) (Nat.le_of_ble_eq_true rfl) dX8_init_49 (fun o9 H hI => ?_)
  refine lv_dup hx hb dX8_init_52 rfl ?_
  refine xi_IN (ws := [(q, .inr (8, [.ref o1, .ref o3, .ref o5, .ref o7, .null, .null, .null, .int 0, .int 0, .int 0]))] ++ wDesk cI o1 B2 ++ wDesk cI o3 B4 ++ wHis cI cD o5 B6 ++ wMer cI cZ o7 B8) (w0 := [(o9, .inr (5, [.null]))]) (As := []) (rest := [.ref o9, .ref q]) (c_X5_init (cI := cI) (cZ := cZ) (cD := cD)) mwc_X5_init ki_X5 mwi_X5_init rfl (by decide) (by decide) (by decide +kernel) km_X8_35 hx hb hml hown hG hO hI xA_of ⟨(Nat.le_of_ble_eq_true rfl), (Nat.le_of_ble_eq_true rfl)⟩ ⟨(Nat.le_of_ble_eq_true rfl), (Nat.le_of_ble_eq_true rfl)⟩ rfl hl.1 rfl (Nat.le_of_ble_eq_true rfl) dX8_init_53 (fun B10 H locs hI => ?_)
  have hI : xI D (va_A [(q, .inr (8, [.null, .null, .null, .null, .null, .null, .null, .int 0, .int 0, .int 0]))] s.heap.size) s.heap ([(q, .inr (8, [.ref o1, .ref o3, .ref o5, .ref o7, .null, .null, .null, .int 0, .int 0, .int 0]))] ++ wDesk cI o1 B2 ++ wDesk cI o3 B4 ++ wHis cI cD o5 B6 ++ wMer cI cZ o7 B8 ++ wScr cI o9 B10) _ _ := hI
  refine xn_putF (own := RX8) (C := RX8) (T := TX8) (N := 10) (ci := 8) (ty := .object "MergedOutline$Script") (v := .ref o9) hx hb hown hG hI 0 rfl rfl inX8 tyX8 tyX8_ok nmX8 4 (by decide) kf_X8_36 rfl hin rfl (by decide +kernel) rfl rfl (Nat.le_of_ble_eq_true rfl) dX8_init_56 (fun H locs hI => ?_)
  have hI : xI D (va_A [(q, .inr (8, [.null, .null, .null, .null, .null, .null, .null, .int 0, .int 0, .int 0]))] s.heap.size) s.heap ([(q, .inr (8, [.ref o1, .ref o3, .ref o5, .ref o7, .ref o9, .null, .null, .int 0, .int 0, .int 0]))] ++ wDesk cI o1 B2 ++ wDesk cI o3 B4 ++ wHis cI cD o5 B6 ++ wMer cI cZ o7 B8 ++ wScr cI o9 B10) _ _ := hI
  refine lv_aload_n hx hb dX8_init_59 rfl (lv_at hl 0 rfl) ?_
  refine xn_new (ci := 2) (fs := [.null, .null, .null]) (C := RX2) (T := TX2) (N := 3) hx hb hown hG hI xA_of inX2 tyX2 tyX2_ok kcl_X8_40 kn_X2 ki_X2 rfl (fun j hj => by rcases (show j = 0 ∨ j = 1 ∨ j = 2 by omega) with rfl | rfl | rfl <;> rfl) (Nat.le_of_ble_eq_true rfl) (Nat.le_of_ble_eq_true rfl) dX8_init_60 (fun o11 H hI => ?_)
  refine lv_dup hx hb dX8_init_63 rfl ?_
  refine xi_IN (ws := [(q, .inr (8, [.ref o1, .ref o3, .ref o5, .ref o7, .ref o9, .null, .null, .int 0, .int 0, .int 0]))] ++ wDesk cI o1 B2 ++ wDesk cI o3 B4 ++ wHis cI cD o5 B6 ++ wMer cI cZ o7 B8 ++ wScr cI o9 B10) (w0 := [(o11, .inr (2, [.null, .null, .null]))]) (As := []) (rest := [.ref o11, .ref q]) (c_X2_init (cI := cI) (cZ := cZ) (cD := cD)) mwc_X2_init ki_X2 mwi_X2_init rfl (by decide) (by decide) (by decide +kernel) km_X8_42 hx hb hml hown hG hO hI xA_of ⟨(Nat.le_of_ble_eq_true rfl), (Nat.le_of_ble_eq_true rfl)⟩ ⟨(Nat.le_of_ble_eq_true rfl), (Nat.le_of_ble_eq_true rfl)⟩ rfl hl.1 rfl (Nat.le_of_ble_eq_true rfl) dX8_init_64 (fun B12 H locs hI => ?_)
  have hI : xI D (va_A [(q, .inr (8, [.null, .null, .null, .null, .null, .null, .null, .int 0, .int 0, .int 0]))] s.heap.size) s.heap ([(q, .inr (8, [.ref o1, .ref o3, .ref o5, .ref o7, .ref o9, .null, .null, .int 0, .int 0, .int 0]))] ++ wDesk cI o1 B2 ++ wDesk cI o3 B4 ++ wHis cI cD o5 B6 ++ wMer cI cZ o7 B8 ++ wScr cI o9 B10 ++ wMat cI cZ o11 B12) _ _ := hI
  refine xn_putF (own := RX8) (C := RX8) (T := TX8) (N := 10) (ci := 8) (ty := .object "MergedOutline$Matching") (v := .ref o11) hx hb hown hG hI 0 rfl rfl inX8 tyX8 tyX8_ok nmX8 5 (by decide) kf_X8_43 rfl hin rfl (by decide +kernel) rfl rfl (Nat.le_of_ble_eq_true rfl) dX8_init_67 (fun H locs hI => ?_)
  have hI : xI D (va_A [(q, .inr (8, [.null, .null, .null, .null, .null, .null, .null, .int 0, .int 0, .int 0]))] s.heap.size) s.heap ([(q, .inr (8, [.ref o1, .ref o3, .ref o5, .ref o7, .ref o9, .ref o11, .null, .int 0, .int 0, .int 0]))] ++ wDesk cI o1 B2 ++ wDesk cI o3 B4 ++ wHis cI cD o5 B6 ++ wMer cI cZ o7 B8 ++ wScr cI o9 B10 ++ wMat cI cZ o11 B12) _ _ := hI
  refine lv_aload_n hx hb dX8_init_70 rfl (lv_at hl 0 rfl) ?_
  refine xn_new (ci := 7) (fs := [.null, .null, .int 0, .int 0, .int 0, .int 0, .int 0, .int 0]) (C := RX7) (T := TX7) (N := 8) hx hb hown hG hI xA_of inX7 tyX7 tyX7_ok kcl_X8_47 kn_X7 ki_X7 rfl (fun j hj => by rcases (show j = 0 ∨ j = 1 ∨ j = 2 ∨ j = 3 ∨ j = 4 ∨ j = 5 ∨ j = 6 ∨ j = 7 by omega) with rfl | rfl | rfl | rfl | rfl | rfl | rfl | rfl <;> rfl) (Nat.le_of_ble_eq_true rfl) (Nat.le_of_ble_eq_true rfl) dX8_init_71 (fun o13 H hI => ?_)
  refine lv_dup hx hb dX8_init_74 rfl ?_
  refine xi_IN (ws := [(q, .inr (8, [.ref o1, .ref o3, .ref o5, .ref o7, .ref o9, .ref o11, .null, .int 0, .int 0, .int 0]))] ++ wDesk cI o1 B2 ++ wDesk cI o3 B4 ++ wHis cI cD o5 B6 ++ wMer cI cZ o7 B8 ++ wScr cI o9 B10 ++ wMat cI cZ o11 B12) (w0 := [(o13, .inr (7, [.null, .null, .int 0, .int 0, .int 0, .int 0, .int 0, .int 0]))]) (As := []) (rest := [.ref o13, .ref q]) (c_X7_init (cI := cI) (cZ := cZ) (cD := cD)) mwc_X7_init ki_X7 mwi_X7_init rfl (by decide) (by decide) (by decide +kernel) km_X8_49 hx hb hml hown hG hO hI xA_of ⟨(Nat.le_of_ble_eq_true rfl), (Nat.le_of_ble_eq_true rfl)⟩ ⟨(Nat.le_of_ble_eq_true rfl), (Nat.le_of_ble_eq_true rfl)⟩ rfl hl.1 rfl (Nat.le_of_ble_eq_true rfl) dX8_init_75 (fun B14 H locs hI => ?_)
  have hI : xI D (va_A [(q, .inr (8, [.null, .null, .null, .null, .null, .null, .null, .int 0, .int 0, .int 0]))] s.heap.size) s.heap ([(q, .inr (8, [.ref o1, .ref o3, .ref o5, .ref o7, .ref o9, .ref o11, .null, .int 0, .int 0, .int 0]))] ++ wDesk cI o1 B2 ++ wDesk cI o3 B4 ++ wHis cI cD o5 B6 ++ wMer cI cZ o7 B8 ++ wScr cI o9 B10 ++ wMat cI cZ o11 B12 ++ wTyp cI o13 B14) _ _ := hI
  refine xn_putF (own := RX8) (C := RX8) (T := TX8) (N := 10) (ci := 8) (ty := .object "MergedOutline$Typed") (v := .ref o13) hx hb hown hG hI 0 rfl rfl inX8 tyX8 tyX8_ok nmX8 6 (by decide) kf_X8_50 rfl hin rfl (by decide +kernel) rfl rfl (Nat.le_of_ble_eq_true rfl) dX8_init_78 (fun H locs hI => ?_)
  have hI : xI D (va_A [(q, .inr (8, [.null, .null, .null, .null, .null, .null, .null, .int 0, .int 0, .int 0]))] s.heap.size) s.heap ([(q, .inr (8, [.ref o1, .ref o3, .ref o5, .ref o7, .ref o9, .ref o11, .ref o13, .int 0, .int 0, .int 0]))] ++ wDesk cI o1 B2 ++ wDesk cI o3 B4 ++ wHis cI cD o5 B6 ++ wMer cI cZ o7 B8 ++ wScr cI o9 B10 ++ wMat cI cZ o11 B12 ++ wTyp cI o13 B14) _ _ := hI
  refine lv_aload_n hx hb dX8_init_81 rfl (lv_at hl 0 rfl) ?_
  refine lv_iconst (v := 0) hx hb dX8_init_82 (by decide) ?_
  refine xn_put (own := RX8) (C := RX8) (T := TX8) (N := 10) (ci := 8) (ty := .int) (v := .int 0) hx hb hown hG hI 0 rfl rfl inX8 tyX8 tyX8_ok nmX8 7 (by decide) kf_X8_54 rfl (by decide +kernel) (by decide +kernel) (by decide +kernel) (Nat.le_of_ble_eq_true rfl) dX8_init_83 (fun H locs hI => ?_)
  have hI : xI D (va_A [(q, .inr (8, [.null, .null, .null, .null, .null, .null, .null, .int 0, .int 0, .int 0]))] s.heap.size) s.heap ([(q, .inr (8, [.ref o1, .ref o3, .ref o5, .ref o7, .ref o9, .ref o11, .ref o13, .int 0, .int 0, .int 0]))] ++ wDesk cI o1 B2 ++ wDesk cI o3 B4 ++ wHis cI cD o5 B6 ++ wMer cI cZ o7 B8 ++ wScr cI o9 B10 ++ wMat cI cZ o11 B12 ++ wTyp cI o13 B14) _ _ := hI
  refine lv_aload_n hx hb dX8_init_86 rfl (lv_at hl 0 rfl) ?_
  refine lv_iconst (v := 0) hx hb dX8_init_87 (by decide) ?_
  refine xn_put (own := RX8) (C := RX8) (T := TX8) (N := 10) (ci := 8) (ty := .int) (v := .int 0) hx hb hown hG hI 0 rfl rfl inX8 tyX8 tyX8_ok nmX8 8 (by decide) kf_X8_58 rfl (by decide +kernel) (by decide +kernel) (by decide +kernel) (Nat.le_of_ble_eq_true rfl) dX8_init_88 (fun H locs hI => ?_)
  have hI : xI D (va_A [(q, .inr (8, [.null, .null, .null, .null, .null, .null, .null, .int 0, .int 0, .int 0]))] s.heap.size) s.heap ([(q, .inr (8, [.ref o1, .ref o3, .ref o5, .ref o7, .ref o9, .ref o11, .ref o13, .int 0, .int 0, .int 0]))] ++ wDesk cI o1 B2 ++ wDesk cI o3 B4 ++ wHis cI cD o5 B6 ++ wMer cI cZ o7 B8 ++ wScr cI o9 B10 ++ wMat cI cZ o11 B12 ++ wTyp cI o13 B14) _ _ := hI
  refine lv_aload_n hx hb dX8_init_91 rfl (lv_at hl 0 rfl) ?_
  refine lv_iconst (v := 0) hx hb dX8_init_92 (by decide) ?_
  refine xn_put (own := RX8) (C := RX8) (T := TX8) (N := 10) (ci := 8) (ty := .int) (v := .int 0) hx hb hown hG hI 0 rfl rfl inX8 tyX8 tyX8_ok nmX8 9 (by decide) kf_X8_61 rfl (by decide +kernel) (by decide +kernel) (by decide +kernel) (Nat.le_of_ble_eq_true rfl) dX8_init_93 (fun H locs hI => ?_)
  have hI : xI D (va_A [(q, .inr (8, [.null, .null, .null, .null, .null, .null, .null, .int 0, .int 0, .int 0]))] s.heap.size) s.heap ([(q, .inr (8, [.ref o1, .ref o3, .ref o5, .ref o7, .ref o9, .ref o11, .ref o13, .int 0, .int 0, .int 0]))] ++ wDesk cI o1 B2 ++ wDesk cI o3 B4 ++ wHis cI cD o5 B6 ++ wMer cI cZ o7 B8 ++ wScr cI o9 B10 ++ wMat cI cZ o11 B12 ++ wTyp cI o13 B14) _ _ := hI
  rw [← wAll_j] at hI
  exact xr_I _ hx hb hr hlk hG hI (Nat.le_of_ble_eq_true rfl) (Nat.le_of_ble_eq_true rfl) dX8_init_96
