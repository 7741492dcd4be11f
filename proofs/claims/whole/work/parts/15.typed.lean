def X7_append (u : Mem) (p1 : Int32) : Option (Bool × Mem) :=
  (if (u 77 2) < 0 then some (false, u) else (if (u 77 2) < 150 then (stI 150 u 78 (u 77 2) p1).bind fun mu1 => (stF mu1 77 2 ((mu1 77 2) + 1)).bind fun mu2 => some (true, mu2) else some (false, u)))
set_option maxHeartbeats 4000000 in
set_option maxRecDepth 100000 in
theorem c_X7_append {l : Launch} {D : va_G} {A : Nat → Nat} {cI cZ cD : ClassId} {u u1 : Mem} {p1 : Int32} {r : Bool}  (hE : X7_append u p1 = some (r, u1)) : Ct l yX7_append cX7_append 2 (some .boolean) (rmOf 0 0) D (tyL cI cZ cD) [.ref (A 77), .int p1] (wX A cI cZ cD u) (some (.int (b2i r))) (wX A cI cZ cD u1) := by
  refine Ct.ofW (by decide +kernel) (fun p e s m below meth c hC hI => ?_)
  obtain ⟨hx, hb, hml, hown, hr, hlk, hG⟩ := hC
  have hown : s.vm.findClass RX7 = some m.cls := hown
  have hl := lv_entry ([.ref (A 77), .int p1] : List Value) (n := 2) (Nat.le_of_ble_eq_true rfl)
  rw [lg_entry_eq]
  generalize (lg_sl ([.ref (A 77), .int p1] : List Value) ++ List.replicate (2 - (lg_sl ([.ref (A 77), .int p1] : List Value)).length) Slot.unset).toArray = ls at hl ⊢
  have hl : lv_has ls 2 [(0, .ref (A 77)), (1, .int p1)] := hl
  unfold X7_append at hE
  refine lv_aload_n hx hb dX7_append_0 rfl (lv_at hl 0 rfl) ?_
  refine xg_get (C := RX7) (T := TX7) (M := 8) hx hb hown hG hI (by omega) eX_77 rfl inX7 2 (by decide) kf_X7_18 rfl dX7_append_1 ?_
  refine lv_if_lt (tgt := 17) hx hb dX7_append_4 (by decide) (fun c4 => ?_) (fun c4 => ?_)
  · rw [if_pos c4] at hE
    refine lv_iconst (v := 0) hx hb dX7_append_17 (by decide) ?_
    obtain ⟨rfl, rfl⟩ := sm2 hE
    exact xr_z rfl hx hb hr hlk hG hI dX7_append_18
  · rw [if_neg c4] at hE
    refine lv_aload_n hx hb dX7_append_7 rfl (lv_at hl 0 rfl) ?_
    refine xg_get (C := RX7) (T := TX7) (M := 8) hx hb hown hG hI (by omega) eX_77 rfl inX7 2 (by decide) kf_X7_18 rfl dX7_append_8 ?_
    refine lv_sipush (v := 150) hx hb dX7_append_11 (by decide) ?_
    refine lv_icmp_lt (tgt := 19) hx hb dX7_append_14 (by decide) (fun c14 => ?_) (fun c14 => ?_)
    · rw [if_pos c14] at hE
      refine lv_aload_n hx hb dX7_append_19 rfl (lv_at hl 0 rfl) ?_
      refine xg_get (C := RX7) (T := TX7) (M := 8) hx hb hown hG hI (by omega) eX_77 rfl inX7 0 (by decide) kf_X7_9 rfl dX7_append_20 ?_
      refine lv_aload_n hx hb dX7_append_23 rfl (lv_at hl 0 rfl) ?_
      refine xg_get (C := RX7) (T := TX7) (M := 8) hx hb hown hG hI (by omega) eX_77 rfl inX7 2 (by decide) kf_X7_18 rfl dX7_append_24 ?_
      refine lv_iload_n hx hb dX7_append_27 rfl (lv_at hl 1 rfl) ?_
      obtain ⟨mu1, hv, hE⟩ := bd1_some hE
      refine xg_iast 0 hx hb hG hI (by omega) eX_78 rfl hv dX7_append_28 (fun H locs hI => ?_)
      refine lv_aload_n hx hb dX7_append_29 rfl (lv_at hl 0 rfl) ?_
      refine lv_dup hx hb dX7_append_30 rfl ?_
      refine xg_get (C := RX7) (T := TX7) (M := 8) hx hb hown hG hI (by omega) eX_77 rfl inX7 2 (by decide) kf_X7_18 rfl dX7_append_31 ?_
      refine lv_iconst (v := 1) hx hb dX7_append_34 (by decide) ?_
      refine lv_iadd hx hb dX7_append_35 ?_
      obtain ⟨mu2, hu, hE⟩ := bd1_some hE
      refine xg_put (C := RX7) (T := TX7) (M := 8) hx hb hown hG hI (by omega) eX_77 rfl inX7 tyX7 tyX7_ok nmX7 2 (by decide) kf_X7_18 rfl (ty := .int) (by decide +kernel) rfl rfl (Nat.le_of_ble_eq_true rfl) rfl hu dX7_append_36 (fun H locs hI => ?_)
      refine lv_iconst (v := 1) hx hb dX7_append_39 (by decide) ?_
      obtain ⟨rfl, rfl⟩ := sm2 hE
      exact xr_z rfl hx hb hr hlk hG hI dX7_append_40
    · rw [if_neg c14] at hE
      refine lv_iconst (v := 0) hx hb dX7_append_17 (by decide) ?_
      obtain ⟨rfl, rfl⟩ := sm2 hE
      exact xr_z rfl hx hb hr hlk hG hI dX7_append_18
def X7_wipe (u : Mem) : Option (Int32 × Mem) :=
  (stF u 77 2 0).bind fun mu1 => some (u 77 2, mu1)
set_option maxHeartbeats 4000000 in
set_option maxRecDepth 100000 in
theorem c_X7_wipe {l : Launch} {D : va_G} {A : Nat → Nat} {cI cZ cD : ClassId} {u u1 : Mem} {r : Int32}  (hE : X7_wipe u = some (r, u1)) : Ct l yX7_wipe cX7_wipe 2 (some .int) (rmOf 0 0) D (tyL cI cZ cD) [.ref (A 77)] (wX A cI cZ cD u) (some (.int r)) (wX A cI cZ cD u1) := by
  refine Ct.ofW (by decide +kernel) (fun p e s m below meth c hC hI => ?_)
  obtain ⟨hx, hb, hml, hown, hr, hlk, hG⟩ := hC
  have hown : s.vm.findClass RX7 = some m.cls := hown
  have hl := lv_entry ([.ref (A 77)] : List Value) (n := 2) (Nat.le_of_ble_eq_true rfl)
  rw [lg_entry_eq]
  generalize (lg_sl ([.ref (A 77)] : List Value) ++ List.replicate (2 - (lg_sl ([.ref (A 77)] : List Value)).length) Slot.unset).toArray = ls at hl ⊢
  have hl : lv_has ls 2 [(0, .ref (A 77))] := hl
  unfold X7_wipe at hE
  refine lv_aload_n hx hb dX7_wipe_0 rfl (lv_at hl 0 rfl) ?_
  refine xg_get (C := RX7) (T := TX7) (M := 8) hx hb hown hG hI (by omega) eX_77 rfl inX7 2 (by decide) kf_X7_18 rfl dX7_wipe_1 ?_
  refine lv_istore_n (lv' := [(1, .int (u 77 2)), (0, .ref (A 77))]) hx hb dX7_wipe_4 rfl hl (by decide) rfl (fun ls hl => ?_)
  refine lv_aload_n hx hb dX7_wipe_5 rfl (lv_at hl 1 rfl) ?_
  refine lv_iconst (v := 0) hx hb dX7_wipe_6 (by decide) ?_
  obtain ⟨mu1, hu, hE⟩ := bd1_some hE
  refine xg_put (C := RX7) (T := TX7) (M := 8) hx hb hown hG hI (by omega) eX_77 rfl inX7 tyX7 tyX7_ok nmX7 2 (by decide) kf_X7_18 rfl (ty := .int) (by decide +kernel) rfl rfl (Nat.le_of_ble_eq_true rfl) rfl hu dX7_wipe_7 (fun H locs hI => ?_)
  refine lv_iload_n hx hb dX7_wipe_10 rfl (lv_at hl 0 rfl) ?_
  obtain ⟨rfl, rfl⟩ := sm2 hE
  exact xr_i hx hb hr hlk hG hI dX7_wipe_11
def X7_put (u : Mem) (p1 : Int32) (p2 : Int32) (p3 : Int32) : Option (Mem) :=
  (X7_isCell p1 p2 : Option Bool).bind fun (r1 : Bool) => (if (b2i r1) = 0 then some u else (stI 450 u 79 ((p1 * 6) + p2) p3).bind fun mu2 => some mu2)
set_option maxHeartbeats 4000000 in
set_option maxRecDepth 100000 in
theorem c_X7_put {l : Launch} {D : va_G} {A : Nat → Nat} {cI cZ cD : ClassId} {u u1 : Mem} {p1 : Int32} {p2 : Int32} {p3 : Int32}  (hE : X7_put u p1 p2 p3 = some (u1)) : Ct l yX7_put cX7_put 4 none (rmOf 1 21) D (tyL cI cZ cD) [.ref (A 77), .int p1, .int p2, .int p3] (wX A cI cZ cD u) none (wX A cI cZ cD u1) := by
  refine Ct.ofW (by decide +kernel) (fun p e s m below meth c hC hI => ?_)
  obtain ⟨hx, hb, hml, hown, hr, hlk, hG⟩ := hC
  have hown : s.vm.findClass RX7 = some m.cls := hown
  have hl := lv_entry ([.ref (A 77), .int p1, .int p2, .int p3] : List Value) (n := 4) (Nat.le_of_ble_eq_true rfl)
  rw [lg_entry_eq]
  generalize (lg_sl ([.ref (A 77), .int p1, .int p2, .int p3] : List Value) ++ List.replicate (4 - (lg_sl ([.ref (A 77), .int p1, .int p2, .int p3] : List Value)).length) Slot.unset).toArray = ls at hl ⊢
  have hl : lv_has ls 4 [(0, .ref (A 77)), (1, .int p1), (2, .int p2), (3, .int p3)] := hl
  unfold X7_put at hE
  refine lv_iload_n hx hb dX7_put_0 rfl (lv_at hl 1 rfl) ?_
  refine lv_iload_n hx hb dX7_put_1 rfl (lv_at hl 2 rfl) ?_
  obtain ⟨r1, hc, hE⟩ := bd1_some hE
  refine xc_S1 (rest := []) (c_X7_isCell hc) mw_X7_isCell km_X7_64 hx hb hml hown hG hI xA_of ⟨Nat.le_of_ble_eq_true rfl, Nat.le_of_ble_eq_true rfl⟩ rfl hl.1 rfl (Nat.le_of_ble_eq_true rfl) dX7_put_2 (fun H locs hI => ?_)
  refine lv_if_eq (tgt := 20) hx hb dX7_put_5 (by decide) (fun c5 => ?_) (fun c5 => ?_)
  · rw [if_pos c5] at hE
    obtain rfl := sm1 hE
    exact xr_v hx hb hr hlk hG hI dX7_put_20
  · rw [if_neg c5] at hE
    refine lv_aload_n hx hb dX7_put_8 rfl (lv_at hl 0 rfl) ?_
    refine xg_get (C := RX7) (T := TX7) (M := 8) hx hb hown hG hI (by omega) eX_77 rfl inX7 1 (by decide) kf_X7_15 rfl dX7_put_9 ?_
    refine lv_iload_n hx hb dX7_put_12 rfl (lv_at hl 1 rfl) ?_
    refine lv_bipush (v := 6) hx hb dX7_put_13 (by decide) ?_
    refine lv_imul hx hb dX7_put_15 ?_
    refine lv_iload_n hx hb dX7_put_16 rfl (lv_at hl 2 rfl) ?_
    refine lv_iadd hx hb dX7_put_17 ?_
    refine lv_iload_n hx hb dX7_put_18 rfl (lv_at hl 3 rfl) ?_
    obtain ⟨mu2, hv, hE⟩ := bd1_some hE
    refine xg_iast 0 hx hb hG hI (by omega) eX_79 rfl hv dX7_put_19 (fun H locs hI => ?_)
    obtain rfl := sm1 hE
    exact xr_v hx hb hr hlk hG hI dX7_put_20
def X7_opens (u : Mem) (p1 : Int32) : Option (Bool × Mem) :=
  (X7_numbersOf p1 : Option Int32).bind fun (r1 : Int32) => (if r1 = (-1) then some (false, u) else (stF u 77 4 1).bind fun mu2 => (stF mu2 77 5 r1).bind fun mu3 => (stF mu3 77 6 0).bind fun mu4 => (X7_put mu4 (mu4 77 3) 0 p1 : Option Mem).bind fun (mu5 : Mem) => some (true, mu5))
set_option maxHeartbeats 4000000 in
set_option maxRecDepth 100000 in
theorem c_X7_opens {l : Launch} {D : va_G} {A : Nat → Nat} {cI cZ cD : ClassId} {u u1 : Mem} {p1 : Int32} {r : Bool}  (hE : X7_opens u p1 = some (r, u1)) : Ct l yX7_opens cX7_opens 3 (some .boolean) (rmOf 2 44) D (tyL cI cZ cD) [.ref (A 77), .int p1] (wX A cI cZ cD u) (some (.int (b2i r))) (wX A cI cZ cD u1) := by
  refine Ct.ofW (by decide +kernel) (fun p e s m below meth c hC hI => ?_)
  obtain ⟨hx, hb, hml, hown, hr, hlk, hG⟩ := hC
  have hown : s.vm.findClass RX7 = some m.cls := hown
  have hl := lv_entry ([.ref (A 77), .int p1] : List Value) (n := 3) (Nat.le_of_ble_eq_true rfl)
  rw [lg_entry_eq]
  generalize (lg_sl ([.ref (A 77), .int p1] : List Value) ++ List.replicate (3 - (lg_sl ([.ref (A 77), .int p1] : List Value)).length) Slot.unset).toArray = ls at hl ⊢
  have hl : lv_has ls 3 [(0, .ref (A 77)), (1, .int p1)] := hl
  unfold X7_opens at hE
  refine lv_iload_n hx hb dX7_opens_0 rfl (lv_at hl 1 rfl) ?_
  obtain ⟨r1, hc, hE⟩ := bd1_some hE
  refine xc_S1 (rest := []) (c_X7_numbersOf hc) mw_X7_numbersOf km_X7_52 hx hb hml hown hG hI xA_of ⟨Nat.le_of_ble_eq_true rfl, Nat.le_of_ble_eq_true rfl⟩ rfl hl.1 rfl (Nat.le_of_ble_eq_true rfl) dX7_opens_1 (fun H locs hI => ?_)
  refine lv_istore_n (lv' := [(2, .int r1), (0, .ref (A 77)), (1, .int p1)]) hx hb dX7_opens_4 rfl hl (by decide) rfl (fun ls hl => ?_)
  refine lv_iload_n hx hb dX7_opens_5 rfl (lv_at hl 0 rfl) ?_
  refine lv_iconst (v := (-1)) hx hb dX7_opens_6 (by decide) ?_
  refine lv_icmp_ne (tgt := 12) hx hb dX7_opens_7 (by decide) (fun c7 => ?_) (fun c7 => ?_)
  · rw [if_neg c7] at hE
    refine lv_aload_n hx hb dX7_opens_12 rfl (lv_at hl 1 rfl) ?_
    refine lv_iconst (v := 1) hx hb dX7_opens_13 (by decide) ?_
    obtain ⟨mu2, hu, hE⟩ := bd1_some hE
    refine xg_put (C := RX7) (T := TX7) (M := 8) hx hb hown hG hI (by omega) eX_77 rfl inX7 tyX7 tyX7_ok nmX7 4 (by decide) kf_X7_25 rfl (ty := .boolean) (by decide +kernel) (by decide +kernel) (by decide +kernel) (Nat.le_of_ble_eq_true rfl) rfl hu dX7_opens_14 (fun H locs hI => ?_)
    refine lv_aload_n hx hb dX7_opens_17 rfl (lv_at hl 1 rfl) ?_
    refine lv_iload_n hx hb dX7_opens_18 rfl (lv_at hl 0 rfl) ?_
    obtain ⟨mu3, hu, hE⟩ := bd1_some hE
    refine xg_put (C := RX7) (T := TX7) (M := 8) hx hb hown hG hI (by omega) eX_77 rfl inX7 tyX7 tyX7_ok nmX7 5 (by decide) kf_X7_29 rfl (ty := .int) (by decide +kernel) rfl rfl (Nat.le_of_ble_eq_true rfl) rfl hu dX7_opens_19 (fun H locs hI => ?_)
    refine lv_aload_n hx hb dX7_opens_22 rfl (lv_at hl 1 rfl) ?_
    refine lv_iconst (v := 0) hx hb dX7_opens_23 (by decide) ?_
    obtain ⟨mu4, hu, hE⟩ := bd1_some hE
    refine xg_put (C := RX7) (T := TX7) (M := 8) hx hb hown hG hI (by omega) eX_77 rfl inX7 tyX7 tyX7_ok nmX7 6 (by decide) kf_X7_32 rfl (ty := .int) (by decide +kernel) rfl rfl (Nat.le_of_ble_eq_true rfl) rfl hu dX7_opens_24 (fun H locs hI => ?_)
    refine lv_aload_n hx hb dX7_opens_27 rfl (lv_at hl 1 rfl) ?_
    refine lv_aload_n hx hb dX7_opens_28 rfl (lv_at hl 1 rfl) ?_
    refine xg_get (C := RX7) (T := TX7) (M := 8) hx hb hown hG hI (by omega) eX_77 rfl inX7 3 (by decide) kf_X7_22 rfl dX7_opens_29 ?_
    refine lv_iconst (v := 0) hx hb dX7_opens_32 (by decide) ?_
    refine lv_iload_n hx hb dX7_opens_33 rfl (lv_at hl 2 rfl) ?_
    obtain ⟨mu5, hc, hE⟩ := bd1_some hE
    refine xc_V0 (rest := []) (c_X7_put hc) mw_X7_put km_X7_56 hx hb hml hown hG hI xA_of (wG_atE (by omega) eX_77) rfl rfl ⟨Nat.le_of_ble_eq_true rfl, Nat.le_of_ble_eq_true rfl⟩ rfl hl.1 rfl (Nat.le_of_ble_eq_true rfl) dX7_opens_34 (fun H locs hI => ?_)
    refine lv_iconst (v := 1) hx hb dX7_opens_37 (by decide) ?_
    obtain ⟨rfl, rfl⟩ := sm2 hE
    exact xr_z rfl hx hb hr hlk hG hI dX7_opens_38
  · rw [if_pos c7] at hE
    refine lv_iconst (v := 0) hx hb dX7_opens_10 (by decide) ?_
    obtain ⟨rfl, rfl⟩ := sm2 hE
    exact xr_z rfl hx hb hr hlk hG hI dX7_opens_11
def X7_cell (u : Mem) (p1 : Int32) (p2 : Int32) : Option (Int32) :=
  (X7_isCell p1 p2 : Option Bool).bind fun (r1 : Bool) => (if (b2i r1) = 0 then some (-1) else (rd 450 (u 79) ((p1 * 6) + p2)).bind fun v2 => some v2)
set_option maxHeartbeats 4000000 in
set_option maxRecDepth 100000 in
theorem c_X7_cell {l : Launch} {D : va_G} {A : Nat → Nat} {cI cZ cD : ClassId} {u : Mem} {p1 : Int32} {p2 : Int32} {r : Int32}  (hE : X7_cell u p1 p2 = some (r)) : Ct l yX7_cell cX7_cell 3 (some .int) (rmOf 1 21) D (tyL cI cZ cD) [.ref (A 77), .int p1, .int p2] (wX A cI cZ cD u) (some (.int r)) (wX A cI cZ cD u) := by
  refine Ct.ofW (by decide +kernel) (fun p e s m below meth c hC hI => ?_)
  obtain ⟨hx, hb, hml, hown, hr, hlk, hG⟩ := hC
  have hown : s.vm.findClass RX7 = some m.cls := hown
  have hl := lv_entry ([.ref (A 77), .int p1, .int p2] : List Value) (n := 3) (Nat.le_of_ble_eq_true rfl)
  rw [lg_entry_eq]
  generalize (lg_sl ([.ref (A 77), .int p1, .int p2] : List Value) ++ List.replicate (3 - (lg_sl ([.ref (A 77), .int p1, .int p2] : List Value)).length) Slot.unset).toArray = ls at hl ⊢
  have hl : lv_has ls 3 [(0, .ref (A 77)), (1, .int p1), (2, .int p2)] := hl
  unfold X7_cell at hE
  refine lv_iload_n hx hb dX7_cell_0 rfl (lv_at hl 1 rfl) ?_
  refine lv_iload_n hx hb dX7_cell_1 rfl (lv_at hl 2 rfl) ?_
  obtain ⟨r1, hc, hE⟩ := bd1_some hE
  refine xc_S1 (rest := []) (c_X7_isCell hc) mw_X7_isCell km_X7_64 hx hb hml hown hG hI xA_of ⟨Nat.le_of_ble_eq_true rfl, Nat.le_of_ble_eq_true rfl⟩ rfl hl.1 rfl (Nat.le_of_ble_eq_true rfl) dX7_cell_2 (fun H locs hI => ?_)
  refine lv_if_eq (tgt := 22) hx hb dX7_cell_5 (by decide) (fun c5 => ?_) (fun c5 => ?_)
  · rw [if_pos c5] at hE
    refine lv_iconst (v := (-1)) hx hb dX7_cell_22 (by decide) ?_
    obtain rfl := sm1 hE
    exact xr_i hx hb hr hlk hG hI dX7_cell_23
  · rw [if_neg c5] at hE
    refine lv_aload_n hx hb dX7_cell_8 rfl (lv_at hl 0 rfl) ?_
    refine xg_get (C := RX7) (T := TX7) (M := 8) hx hb hown hG hI (by omega) eX_77 rfl inX7 1 (by decide) kf_X7_15 rfl dX7_cell_9 ?_
    refine lv_iload_n hx hb dX7_cell_12 rfl (lv_at hl 1 rfl) ?_
    refine lv_bipush (v := 6) hx hb dX7_cell_13 (by decide) ?_
    refine lv_imul hx hb dX7_cell_15 ?_
    refine lv_iload_n hx hb dX7_cell_16 rfl (lv_at hl 2 rfl) ?_
    refine lv_iadd hx hb dX7_cell_17 ?_
    obtain ⟨v2, hv, hE⟩ := bd1_some hE
    refine xg_iald 0 hx hb hG hI (by omega) eX_79 rfl hv dX7_cell_18 ?_
    refine lv_goto (tgt := 23) hx hb dX7_cell_19 (by decide) ?_
    obtain rfl := sm1 hE
    exact xr_i hx hb hr hlk hG hI dX7_cell_23
def X7_takesFigure (u : Mem) (p1 : Int32) : Option (Bool × Mem) :=
  (if (u 77 7) = 0 then (if (u 77 6) = (u 77 5) then some (false, u) else (stF u 77 6 ((u 77 6) + 1)).bind fun mu4 => (X7_put mu4 (mu4 77 3) (mu4 77 6) 0 : Option Mem).bind fun (mu5 : Mem) => (if (mu5 77 7) = 2 then some (false, mu5) else (stF mu5 77 7 ((mu5 77 7) + 1)).bind fun mu6 => (X7_cell mu6 (mu6 77 3) (mu6 77 6) : Option Int32).bind fun (r7 : Int32) => (X7_put mu6 (mu6 77 3) (mu6 77 6) ((10 * r7) + p1) : Option Mem).bind fun (mu8 : Mem) => some (true, mu8))) else (if (u 77 7) = 2 then some (false, u) else (stF u 77 7 ((u 77 7) + 1)).bind fun mu1 => (X7_cell mu1 (mu1 77 3) (mu1 77 6) : Option Int32).bind fun (r2 : Int32) => (X7_put mu1 (mu1 77 3) (mu1 77 6) ((10 * r2) + p1) : Option Mem).bind fun (mu3 : Mem) => some (true, mu3)))
set_option maxHeartbeats 4000000 in
set_option maxRecDepth 100000 in
theorem c_X7_takesFigure {l : Launch} {D : va_G} {A : Nat → Nat} {cI cZ cD : ClassId} {u u1 : Mem} {p1 : Int32} {r : Bool}  (hE : X7_takesFigure u p1 = some (r, u1)) : Ct l yX7_takesFigure cX7_takesFigure 2 (some .boolean) (rmOf 2 44) D (tyL cI cZ cD) [.ref (A 77), .int p1] (wX A cI cZ cD u) (some (.int (b2i r))) (wX A cI cZ cD u1) := by
  refine Ct.ofW (by decide +kernel) (fun p e s m below meth c hC hI => ?_)
  obtain ⟨hx, hb, hml, hown, hr, hlk, hG⟩ := hC
  have hown : s.vm.findClass RX7 = some m.cls := hown
  have hl := lv_entry ([.ref (A 77), .int p1] : List Value) (n := 2) (Nat.le_of_ble_eq_true rfl)
  rw [lg_entry_eq]
  generalize (lg_sl ([.ref (A 77), .int p1] : List Value) ++ List.replicate (2 - (lg_sl ([.ref (A 77), .int p1] : List Value)).length) Slot.unset).toArray = ls at hl ⊢
  have hl : lv_has ls 2 [(0, .ref (A 77)), (1, .int p1)] := hl
  unfold X7_takesFigure at hE
  refine lv_aload_n hx hb dX7_takesFigure_0 rfl (lv_at hl 0 rfl) ?_
  refine xg_get (C := RX7) (T := TX7) (M := 8) hx hb hown hG hI (by omega) eX_77 rfl inX7 7 (by decide) kf_X7_35 rfl dX7_takesFigure_1 ?_
  refine lv_if_ne (tgt := 43) hx hb dX7_takesFigure_4 (by decide) (fun c4 => ?_) (fun c4 => ?_)
  · rw [if_neg c4] at hE
    refine lv_aload_n hx hb dX7_takesFigure_43 rfl (lv_at hl 0 rfl) ?_
    refine xg_get (C := RX7) (T := TX7) (M := 8) hx hb hown hG hI (by omega) eX_77 rfl inX7 7 (by decide) kf_X7_35 rfl dX7_takesFigure_44 ?_
    refine lv_iconst (v := 2) hx hb dX7_takesFigure_47 (by decide) ?_
    refine lv_icmp_ne (tgt := 53) hx hb dX7_takesFigure_48 (by decide) (fun c48 => ?_) (fun c48 => ?_)
    · rw [if_neg c48] at hE
      refine lv_aload_n hx hb dX7_takesFigure_53 rfl (lv_at hl 0 rfl) ?_
      refine lv_dup hx hb dX7_takesFigure_54 rfl ?_
      refine xg_get (C := RX7) (T := TX7) (M := 8) hx hb hown hG hI (by omega) eX_77 rfl inX7 7 (by decide) kf_X7_35 rfl dX7_takesFigure_55 ?_
      refine lv_iconst (v := 1) hx hb dX7_takesFigure_58 (by decide) ?_
      refine lv_iadd hx hb dX7_takesFigure_59 ?_
      obtain ⟨mu1, hu, hE⟩ := bd1_some hE
      refine xg_put (C := RX7) (T := TX7) (M := 8) hx hb hown hG hI (by omega) eX_77 rfl inX7 tyX7 tyX7_ok nmX7 7 (by decide) kf_X7_35 rfl (ty := .int) (by decide +kernel) rfl rfl (Nat.le_of_ble_eq_true rfl) rfl hu dX7_takesFigure_60 (fun H locs hI => ?_)
      refine lv_aload_n hx hb dX7_takesFigure_63 rfl (lv_at hl 0 rfl) ?_
      refine lv_aload_n hx hb dX7_takesFigure_64 rfl (lv_at hl 0 rfl) ?_
      refine xg_get (C := RX7) (T := TX7) (M := 8) hx hb hown hG hI (by omega) eX_77 rfl inX7 3 (by decide) kf_X7_22 rfl dX7_takesFigure_65 ?_
      refine lv_aload_n hx hb dX7_takesFigure_68 rfl (lv_at hl 0 rfl) ?_
      refine xg_get (C := RX7) (T := TX7) (M := 8) hx hb hown hG hI (by omega) eX_77 rfl inX7 6 (by decide) kf_X7_32 rfl dX7_takesFigure_69 ?_
      refine lv_bipush (v := 10) hx hb dX7_takesFigure_72 (by decide) ?_
      refine lv_aload_n hx hb dX7_takesFigure_74 rfl (lv_at hl 0 rfl) ?_
      refine lv_aload_n hx hb dX7_takesFigure_75 rfl (lv_at hl 0 rfl) ?_
      refine xg_get (C := RX7) (T := TX7) (M := 8) hx hb hown hG hI (by omega) eX_77 rfl inX7 3 (by decide) kf_X7_22 rfl dX7_takesFigure_76 ?_
      refine lv_aload_n hx hb dX7_takesFigure_79 rfl (lv_at hl 0 rfl) ?_
      refine xg_get (C := RX7) (T := TX7) (M := 8) hx hb hown hG hI (by omega) eX_77 rfl inX7 6 (by decide) kf_X7_32 rfl dX7_takesFigure_80 ?_
      obtain ⟨r2, hc, hE⟩ := bd1_some hE
      refine xc_V1 (rest := [.int 10, .int (mu1 77 6), .int (mu1 77 3), .ref (A 77)]) (c_X7_cell hc) mw_X7_cell km_X7_60 hx hb hml hown hG hI xA_of (wG_atE (by omega) eX_77) rfl rfl ⟨Nat.le_of_ble_eq_true rfl, Nat.le_of_ble_eq_true rfl⟩ rfl hl.1 rfl (Nat.le_of_ble_eq_true rfl) dX7_takesFigure_83 (fun H locs hI => ?_)
      refine lv_imul hx hb dX7_takesFigure_86 ?_
      refine lv_iload_n hx hb dX7_takesFigure_87 rfl (lv_at hl 1 rfl) ?_
      refine lv_iadd hx hb dX7_takesFigure_88 ?_
      obtain ⟨mu3, hc, hE⟩ := bd1_some hE
      refine xc_V0 (rest := []) (c_X7_put hc) mw_X7_put km_X7_56 hx hb hml hown hG hI xA_of (wG_atE (by omega) eX_77) rfl rfl ⟨Nat.le_of_ble_eq_true rfl, Nat.le_of_ble_eq_true rfl⟩ rfl hl.1 rfl (Nat.le_of_ble_eq_true rfl) dX7_takesFigure_89 (fun H locs hI => ?_)
      refine lv_iconst (v := 1) hx hb dX7_takesFigure_92 (by decide) ?_
      obtain ⟨rfl, rfl⟩ := sm2 hE
      exact xr_z rfl hx hb hr hlk hG hI dX7_takesFigure_93
    · rw [if_pos c48] at hE
      refine lv_iconst (v := 0) hx hb dX7_takesFigure_51 (by decide) ?_
      obtain ⟨rfl, rfl⟩ := sm2 hE
      exact xr_z rfl hx hb hr hlk hG hI dX7_takesFigure_52
  · rw [if_pos c4] at hE
    refine lv_aload_n hx hb dX7_takesFigure_7 rfl (lv_at hl 0 rfl) ?_
    refine xg_get (C := RX7) (T := TX7) (M := 8) hx hb hown hG hI (by omega) eX_77 rfl inX7 6 (by decide) kf_X7_32 rfl dX7_takesFigure_8 ?_
    refine lv_aload_n hx hb dX7_takesFigure_11 rfl (lv_at hl 0 rfl) ?_
    refine xg_get (C := RX7) (T := TX7) (M := 8) hx hb hown hG hI (by omega) eX_77 rfl inX7 5 (by decide) kf_X7_29 rfl dX7_takesFigure_12 ?_
    refine lv_icmp_ne (tgt := 20) hx hb dX7_takesFigure_15 (by decide) (fun c15 => ?_) (fun c15 => ?_)
    · rw [if_neg c15] at hE
      refine lv_aload_n hx hb dX7_takesFigure_20 rfl (lv_at hl 0 rfl) ?_
      refine lv_dup hx hb dX7_takesFigure_21 rfl ?_
      refine xg_get (C := RX7) (T := TX7) (M := 8) hx hb hown hG hI (by omega) eX_77 rfl inX7 6 (by decide) kf_X7_32 rfl dX7_takesFigure_22 ?_
      refine lv_iconst (v := 1) hx hb dX7_takesFigure_25 (by decide) ?_
      refine lv_iadd hx hb dX7_takesFigure_26 ?_
      obtain ⟨mu4, hu, hE⟩ := bd1_some hE
      refine xg_put (C := RX7) (T := TX7) (M := 8) hx hb hown hG hI (by omega) eX_77 rfl inX7 tyX7 tyX7_ok nmX7 6 (by decide) kf_X7_32 rfl (ty := .int) (by decide +kernel) rfl rfl (Nat.le_of_ble_eq_true rfl) rfl hu dX7_takesFigure_27 (fun H locs hI => ?_)
      refine lv_aload_n hx hb dX7_takesFigure_30 rfl (lv_at hl 0 rfl) ?_
      refine lv_aload_n hx hb dX7_takesFigure_31 rfl (lv_at hl 0 rfl) ?_
      refine xg_get (C := RX7) (T := TX7) (M := 8) hx hb hown hG hI (by omega) eX_77 rfl inX7 3 (by decide) kf_X7_22 rfl dX7_takesFigure_32 ?_
      refine lv_aload_n hx hb dX7_takesFigure_35 rfl (lv_at hl 0 rfl) ?_
      refine xg_get (C := RX7) (T := TX7) (M := 8) hx hb hown hG hI (by omega) eX_77 rfl inX7 6 (by decide) kf_X7_32 rfl dX7_takesFigure_36 ?_
      refine lv_iconst (v := 0) hx hb dX7_takesFigure_39 (by decide) ?_
      obtain ⟨mu5, hc, hE⟩ := bd1_some hE
      refine xc_V0 (rest := []) (c_X7_put hc) mw_X7_put km_X7_56 hx hb hml hown hG hI xA_of (wG_atE (by omega) eX_77) rfl rfl ⟨Nat.le_of_ble_eq_true rfl, Nat.le_of_ble_eq_true rfl⟩ rfl hl.1 rfl (Nat.le_of_ble_eq_true rfl) dX7_takesFigure_40 (fun H locs hI => ?_)
      refine lv_aload_n hx hb dX7_takesFigure_43 rfl (lv_at hl 0 rfl) ?_
      refine xg_get (C := RX7) (T := TX7) (M := 8) hx hb hown hG hI (by omega) eX_77 rfl inX7 7 (by decide) kf_X7_35 rfl dX7_takesFigure_44 ?_
      refine lv_iconst (v := 2) hx hb dX7_takesFigure_47 (by decide) ?_
      refine lv_icmp_ne (tgt := 53) hx hb dX7_takesFigure_48 (by decide) (fun c48 => ?_) (fun c48 => ?_)
      · rw [if_neg c48] at hE
        refine lv_aload_n hx hb dX7_takesFigure_53 rfl (lv_at hl 0 rfl) ?_
        refine lv_dup hx hb dX7_takesFigure_54 rfl ?_
        refine xg_get (C := RX7) (T := TX7) (M := 8) hx hb hown hG hI (by omega) eX_77 rfl inX7 7 (by decide) kf_X7_35 rfl dX7_takesFigure_55 ?_
        refine lv_iconst (v := 1) hx hb dX7_takesFigure_58 (by decide) ?_
        refine lv_iadd hx hb dX7_takesFigure_59 ?_
        obtain ⟨mu6, hu, hE⟩ := bd1_some hE
        refine xg_put (C := RX7) (T := TX7) (M := 8) hx hb hown hG hI (by omega) eX_77 rfl inX7 tyX7 tyX7_ok nmX7 7 (by decide) kf_X7_35 rfl (ty := .int) (by decide +kernel) rfl rfl (Nat.le_of_ble_eq_true rfl) rfl hu dX7_takesFigure_60 (fun H locs hI => ?_)
        refine lv_aload_n hx hb dX7_takesFigure_63 rfl (lv_at hl 0 rfl) ?_
        refine lv_aload_n hx hb dX7_takesFigure_64 rfl (lv_at hl 0 rfl) ?_
        refine xg_get (C := RX7) (T := TX7) (M := 8) hx hb hown hG hI (by omega) eX_77 rfl inX7 3 (by decide) kf_X7_22 rfl dX7_takesFigure_65 ?_
        refine lv_aload_n hx hb dX7_takesFigure_68 rfl (lv_at hl 0 rfl) ?_
        refine xg_get (C := RX7) (T := TX7) (M := 8) hx hb hown hG hI (by omega) eX_77 rfl inX7 6 (by decide) kf_X7_32 rfl dX7_takesFigure_69 ?_
        refine lv_bipush (v := 10) hx hb dX7_takesFigure_72 (by decide) ?_
        refine lv_aload_n hx hb dX7_takesFigure_74 rfl (lv_at hl 0 rfl) ?_
        refine lv_aload_n hx hb dX7_takesFigure_75 rfl (lv_at hl 0 rfl) ?_
        refine xg_get (C := RX7) (T := TX7) (M := 8) hx hb hown hG hI (by omega) eX_77 rfl inX7 3 (by decide) kf_X7_22 rfl dX7_takesFigure_76 ?_
        refine lv_aload_n hx hb dX7_takesFigure_79 rfl (lv_at hl 0 rfl) ?_
        refine xg_get (C := RX7) (T := TX7) (M := 8) hx hb hown hG hI (by omega) eX_77 rfl inX7 6 (by decide) kf_X7_32 rfl dX7_takesFigure_80 ?_
        obtain ⟨r7, hc, hE⟩ := bd1_some hE
        refine xc_V1 (rest := [.int 10, .int (mu6 77 6), .int (mu6 77 3), .ref (A 77)]) (c_X7_cell hc) mw_X7_cell km_X7_60 hx hb hml hown hG hI xA_of (wG_atE (by omega) eX_77) rfl rfl ⟨Nat.le_of_ble_eq_true rfl, Nat.le_of_ble_eq_true rfl⟩ rfl hl.1 rfl (Nat.le_of_ble_eq_true rfl) dX7_takesFigure_83 (fun H locs hI => ?_)
        refine lv_imul hx hb dX7_takesFigure_86 ?_
        refine lv_iload_n hx hb dX7_takesFigure_87 rfl (lv_at hl 1 rfl) ?_
        refine lv_iadd hx hb dX7_takesFigure_88 ?_
        obtain ⟨mu8, hc, hE⟩ := bd1_some hE
        refine xc_V0 (rest := []) (c_X7_put hc) mw_X7_put km_X7_56 hx hb hml hown hG hI xA_of (wG_atE (by omega) eX_77) rfl rfl ⟨Nat.le_of_ble_eq_true rfl, Nat.le_of_ble_eq_true rfl⟩ rfl hl.1 rfl (Nat.le_of_ble_eq_true rfl) dX7_takesFigure_89 (fun H locs hI => ?_)
        refine lv_iconst (v := 1) hx hb dX7_takesFigure_92 (by decide) ?_
        obtain ⟨rfl, rfl⟩ := sm2 hE
        exact xr_z rfl hx hb hr hlk hG hI dX7_takesFigure_93
      · rw [if_pos c48] at hE
        refine lv_iconst (v := 0) hx hb dX7_takesFigure_51 (by decide) ?_
        obtain ⟨rfl, rfl⟩ := sm2 hE
        exact xr_z rfl hx hb hr hlk hG hI dX7_takesFigure_52
    · rw [if_pos c15] at hE
      refine lv_iconst (v := 0) hx hb dX7_takesFigure_18 (by decide) ?_
      obtain ⟨rfl, rfl⟩ := sm2 hE
      exact xr_z rfl hx hb hr hlk hG hI dX7_takesFigure_19
def X7_closes (u : Mem) : Option (Bool × Mem) :=
  (if (u 77 6) = (u 77 5) then (stF u 77 4 0).bind fun mu1 => (stF mu1 77 7 0).bind fun mu2 => (stF mu2 77 3 ((mu2 77 3) + 1)).bind fun mu3 => some (true, mu3) else some (false, u))
set_option maxHeartbeats 4000000 in
set_option maxRecDepth 100000 in
theorem c_X7_closes {l : Launch} {D : va_G} {A : Nat → Nat} {cI cZ cD : ClassId} {u u1 : Mem} {r : Bool}  (hE : X7_closes u = some (r, u1)) : Ct l yX7_closes cX7_closes 1 (some .boolean) (rmOf 0 0) D (tyL cI cZ cD) [.ref (A 77)] (wX A cI cZ cD u) (some (.int (b2i r))) (wX A cI cZ cD u1) := by
  refine Ct.ofW (by decide +kernel) (fun p e s m below meth c hC hI => ?_)
  obtain ⟨hx, hb, hml, hown, hr, hlk, hG⟩ := hC
  have hown : s.vm.findClass RX7 = some m.cls := hown
  have hl := lv_entry ([.ref (A 77)] : List Value) (n := 1) (Nat.le_of_ble_eq_true rfl)
  rw [lg_entry_eq]
  generalize (lg_sl ([.ref (A 77)] : List Value) ++ List.replicate (1 - (lg_sl ([.ref (A 77)] : List Value)).length) Slot.unset).toArray = ls at hl ⊢
  have hl : lv_has ls 1 [(0, .ref (A 77))] := hl
  unfold X7_closes at hE
  refine lv_aload_n hx hb dX7_closes_0 rfl (lv_at hl 0 rfl) ?_
  refine xg_get (C := RX7) (T := TX7) (M := 8) hx hb hown hG hI (by omega) eX_77 rfl inX7 6 (by decide) kf_X7_32 rfl dX7_closes_1 ?_
  refine lv_aload_n hx hb dX7_closes_4 rfl (lv_at hl 0 rfl) ?_
  refine xg_get (C := RX7) (T := TX7) (M := 8) hx hb hown hG hI (by omega) eX_77 rfl inX7 5 (by decide) kf_X7_29 rfl dX7_closes_5 ?_
  refine lv_icmp_eq (tgt := 13) hx hb dX7_closes_8 (by decide) (fun c8 => ?_) (fun c8 => ?_)
  · rw [if_pos c8] at hE
    refine lv_aload_n hx hb dX7_closes_13 rfl (lv_at hl 0 rfl) ?_
    refine lv_iconst (v := 0) hx hb dX7_closes_14 (by decide) ?_
    obtain ⟨mu1, hu, hE⟩ := bd1_some hE
    refine xg_put (C := RX7) (T := TX7) (M := 8) hx hb hown hG hI (by omega) eX_77 rfl inX7 tyX7 tyX7_ok nmX7 4 (by decide) kf_X7_25 rfl (ty := .boolean) (by decide +kernel) (by decide +kernel) (by decide +kernel) (Nat.le_of_ble_eq_true rfl) rfl hu dX7_closes_15 (fun H locs hI => ?_)
    refine lv_aload_n hx hb dX7_closes_18 rfl (lv_at hl 0 rfl) ?_
    refine lv_iconst (v := 0) hx hb dX7_closes_19 (by decide) ?_
    obtain ⟨mu2, hu, hE⟩ := bd1_some hE
    refine xg_put (C := RX7) (T := TX7) (M := 8) hx hb hown hG hI (by omega) eX_77 rfl inX7 tyX7 tyX7_ok nmX7 7 (by decide) kf_X7_35 rfl (ty := .int) (by decide +kernel) rfl rfl (Nat.le_of_ble_eq_true rfl) rfl hu dX7_closes_20 (fun H locs hI => ?_)
    refine lv_aload_n hx hb dX7_closes_23 rfl (lv_at hl 0 rfl) ?_
    refine lv_dup hx hb dX7_closes_24 rfl ?_
    refine xg_get (C := RX7) (T := TX7) (M := 8) hx hb hown hG hI (by omega) eX_77 rfl inX7 3 (by decide) kf_X7_22 rfl dX7_closes_25 ?_
    refine lv_iconst (v := 1) hx hb dX7_closes_28 (by decide) ?_
    refine lv_iadd hx hb dX7_closes_29 ?_
    obtain ⟨mu3, hu, hE⟩ := bd1_some hE
    refine xg_put (C := RX7) (T := TX7) (M := 8) hx hb hown hG hI (by omega) eX_77 rfl inX7 tyX7 tyX7_ok nmX7 3 (by decide) kf_X7_22 rfl (ty := .int) (by decide +kernel) rfl rfl (Nat.le_of_ble_eq_true rfl) rfl hu dX7_closes_30 (fun H locs hI => ?_)
    refine lv_iconst (v := 1) hx hb dX7_closes_33 (by decide) ?_
    obtain ⟨rfl, rfl⟩ := sm2 hE
    exact xr_z rfl hx hb hr hlk hG hI dX7_closes_34
  · rw [if_neg c8] at hE
    refine lv_iconst (v := 0) hx hb dX7_closes_11 (by decide) ?_
    obtain ⟨rfl, rfl⟩ := sm2 hE
    exact xr_z rfl hx hb hr hlk hG hI dX7_closes_12
def X7_takes (u : Mem) (p1 : Int32) : Option (Bool × Mem) :=
  (if p1 = 32 then (stF u 77 7 0).bind fun mu9 => some (true, mu9) else (if (u 77 4) = 0 then bd2 (X7_opens u p1) fun (r7 : Bool) (mu8 : Mem) => some (r7, mu8) else (if p1 < 48 then (if p1 = 59 then bd2 (X7_closes u) fun (r1 : Bool) (mu2 : Mem) => (if (b2i r1) = 0 then some (false, mu2) else some (true, mu2)) else some (false, u)) else (if 57 < p1 then (if p1 = 59 then bd2 (X7_closes u) fun (r3 : Bool) (mu4 : Mem) => (if (b2i r3) = 0 then some (false, mu4) else some (true, mu4)) else some (false, u)) else bd2 (X7_takesFigure u (p1 - 48)) fun (r5 : Bool) (mu6 : Mem) => some (r5, mu6)))))
set_option maxHeartbeats 4000000 in
set_option maxRecDepth 100000 in
theorem c_X7_takes {l : Launch} {D : va_G} {A : Nat → Nat} {cI cZ cD : ClassId} {u u1 : Mem} {p1 : Int32} {r : Bool}  (hE : X7_takes u p1 = some (r, u1)) : Ct l yX7_takes cX7_takes 2 (some .boolean) (rmOf 3 66) D (tyL cI cZ cD) [.ref (A 77), .int p1] (wX A cI cZ cD u) (some (.int (b2i r))) (wX A cI cZ cD u1) := by
  refine Ct.ofW (by decide +kernel) (fun p e s m below meth c hC hI => ?_)
  obtain ⟨hx, hb, hml, hown, hr, hlk, hG⟩ := hC
  have hown : s.vm.findClass RX7 = some m.cls := hown
  have hl := lv_entry ([.ref (A 77), .int p1] : List Value) (n := 2) (Nat.le_of_ble_eq_true rfl)
  rw [lg_entry_eq]
  generalize (lg_sl ([.ref (A 77), .int p1] : List Value) ++ List.replicate (2 - (lg_sl ([.ref (A 77), .int p1] : List Value)).length) Slot.unset).toArray = ls at hl ⊢
  have hl : lv_has ls 2 [(0, .ref (A 77)), (1, .int p1)] := hl
  unfold X7_takes at hE
  refine lv_iload_n hx hb dX7_takes_0 rfl (lv_at hl 1 rfl) ?_
  refine lv_bipush (v := 32) hx hb dX7_takes_1 (by decide) ?_
  refine lv_icmp_ne (tgt := 13) hx hb dX7_takes_3 (by decide) (fun c3 => ?_) (fun c3 => ?_)
  · rw [if_neg c3] at hE
    refine lv_aload_n hx hb dX7_takes_13 rfl (lv_at hl 0 rfl) ?_
    refine xg_get (C := RX7) (T := TX7) (M := 8) hx hb hown hG hI (by omega) eX_77 rfl inX7 4 (by decide) kf_X7_25 rfl dX7_takes_14 ?_
    refine lv_if_ne (tgt := 26) hx hb dX7_takes_17 (by decide) (fun c17 => ?_) (fun c17 => ?_)
    · rw [if_neg c17] at hE
      refine lv_iload_n hx hb dX7_takes_26 rfl (lv_at hl 1 rfl) ?_
      refine lv_bipush (v := 48) hx hb dX7_takes_27 (by decide) ?_
      refine lv_icmp_lt (tgt := 47) hx hb dX7_takes_29 (by decide) (fun c29 => ?_) (fun c29 => ?_)
      · rw [if_pos c29] at hE
        refine lv_iload_n hx hb dX7_takes_47 rfl (lv_at hl 1 rfl) ?_
        refine lv_bipush (v := 59) hx hb dX7_takes_48 (by decide) ?_
        refine lv_icmp_ne (tgt := 64) hx hb dX7_takes_50 (by decide) (fun c50 => ?_) (fun c50 => ?_)
        · rw [if_neg c50] at hE
          refine lv_iconst (v := 0) hx hb dX7_takes_64 (by decide) ?_
          obtain ⟨rfl, rfl⟩ := sm2 hE
          exact xr_z rfl hx hb hr hlk hG hI dX7_takes_65
        · rw [if_pos c50] at hE
          refine lv_aload_n hx hb dX7_takes_53 rfl (lv_at hl 0 rfl) ?_
          obtain ⟨r1, mu2, hc, hE⟩ := bd2_some hE
          refine xc_V1 (rest := []) (c_X7_closes hc) mw_X7_closes km_X7_48 hx hb hml hown hG hI xA_of (wG_atE (by omega) eX_77) rfl rfl ⟨Nat.le_of_ble_eq_true rfl, Nat.le_of_ble_eq_true rfl⟩ rfl hl.1 rfl (Nat.le_of_ble_eq_true rfl) dX7_takes_54 (fun H locs hI => ?_)
          refine lv_if_eq (tgt := 64) hx hb dX7_takes_57 (by decide) (fun c57 => ?_) (fun c57 => ?_)
          · rw [if_pos c57] at hE
            refine lv_iconst (v := 0) hx hb dX7_takes_64 (by decide) ?_
            obtain ⟨rfl, rfl⟩ := sm2 hE
            exact xr_z rfl hx hb hr hlk hG hI dX7_takes_65
          · rw [if_neg c57] at hE
            refine lv_iconst (v := 1) hx hb dX7_takes_60 (by decide) ?_
            refine lv_goto (tgt := 65) hx hb dX7_takes_61 (by decide) ?_
            obtain ⟨rfl, rfl⟩ := sm2 hE
            exact xr_z rfl hx hb hr hlk hG hI dX7_takes_65
      · rw [if_neg c29] at hE
        refine lv_iload_n hx hb dX7_takes_32 rfl (lv_at hl 1 rfl) ?_
        refine lv_bipush (v := 57) hx hb dX7_takes_33 (by decide) ?_
        refine lv_icmp_gt (tgt := 47) hx hb dX7_takes_35 (by decide) (fun c35 => ?_) (fun c35 => ?_)
        · rw [if_pos c35] at hE
          refine lv_iload_n hx hb dX7_takes_47 rfl (lv_at hl 1 rfl) ?_
          refine lv_bipush (v := 59) hx hb dX7_takes_48 (by decide) ?_
          refine lv_icmp_ne (tgt := 64) hx hb dX7_takes_50 (by decide) (fun c50 => ?_) (fun c50 => ?_)
          · rw [if_neg c50] at hE
            refine lv_iconst (v := 0) hx hb dX7_takes_64 (by decide) ?_
            obtain ⟨rfl, rfl⟩ := sm2 hE
            exact xr_z rfl hx hb hr hlk hG hI dX7_takes_65
          · rw [if_pos c50] at hE
            refine lv_aload_n hx hb dX7_takes_53 rfl (lv_at hl 0 rfl) ?_
            obtain ⟨r3, mu4, hc, hE⟩ := bd2_some hE
            refine xc_V1 (rest := []) (c_X7_closes hc) mw_X7_closes km_X7_48 hx hb hml hown hG hI xA_of (wG_atE (by omega) eX_77) rfl rfl ⟨Nat.le_of_ble_eq_true rfl, Nat.le_of_ble_eq_true rfl⟩ rfl hl.1 rfl (Nat.le_of_ble_eq_true rfl) dX7_takes_54 (fun H locs hI => ?_)
            refine lv_if_eq (tgt := 64) hx hb dX7_takes_57 (by decide) (fun c57 => ?_) (fun c57 => ?_)
            · rw [if_pos c57] at hE
              refine lv_iconst (v := 0) hx hb dX7_takes_64 (by decide) ?_
              obtain ⟨rfl, rfl⟩ := sm2 hE
              exact xr_z rfl hx hb hr hlk hG hI dX7_takes_65
            · rw [if_neg c57] at hE
              refine lv_iconst (v := 1) hx hb dX7_takes_60 (by decide) ?_
              refine lv_goto (tgt := 65) hx hb dX7_takes_61 (by decide) ?_
              obtain ⟨rfl, rfl⟩ := sm2 hE
              exact xr_z rfl hx hb hr hlk hG hI dX7_takes_65
        · rw [if_neg c35] at hE
          refine lv_aload_n hx hb dX7_takes_38 rfl (lv_at hl 0 rfl) ?_
          refine lv_iload_n hx hb dX7_takes_39 rfl (lv_at hl 1 rfl) ?_
          refine lv_bipush (v := 48) hx hb dX7_takes_40 (by decide) ?_
          refine lv_isub hx hb dX7_takes_42 ?_
          obtain ⟨r5, mu6, hc, hE⟩ := bd2_some hE
          refine xc_V1 (rest := []) (c_X7_takesFigure hc) mw_X7_takesFigure km_X7_45 hx hb hml hown hG hI xA_of (wG_atE (by omega) eX_77) rfl rfl ⟨Nat.le_of_ble_eq_true rfl, Nat.le_of_ble_eq_true rfl⟩ rfl hl.1 rfl (Nat.le_of_ble_eq_true rfl) dX7_takes_43 (fun H locs hI => ?_)
          obtain ⟨rfl, rfl⟩ := sm2 hE
          exact xr_z rfl hx hb hr hlk hG hI dX7_takes_46
    · rw [if_pos c17] at hE
      refine lv_aload_n hx hb dX7_takes_20 rfl (lv_at hl 0 rfl) ?_
      refine lv_iload_n hx hb dX7_takes_21 rfl (lv_at hl 1 rfl) ?_
      obtain ⟨r7, mu8, hc, hE⟩ := bd2_some hE
      refine xc_V1 (rest := []) (c_X7_opens hc) mw_X7_opens km_X7_42 hx hb hml hown hG hI xA_of (wG_atE (by omega) eX_77) rfl rfl ⟨Nat.le_of_ble_eq_true rfl, Nat.le_of_ble_eq_true rfl⟩ rfl hl.1 rfl (Nat.le_of_ble_eq_true rfl) dX7_takes_22 (fun H locs hI => ?_)
      obtain ⟨rfl, rfl⟩ := sm2 hE
      exact xr_z rfl hx hb hr hlk hG hI dX7_takes_25
  · rw [if_pos c3] at hE
    refine lv_aload_n hx hb dX7_takes_6 rfl (lv_at hl 0 rfl) ?_
    refine lv_iconst (v := 0) hx hb dX7_takes_7 (by decide) ?_
    obtain ⟨mu9, hu, hE⟩ := bd1_some hE
    refine xg_put (C := RX7) (T := TX7) (M := 8) hx hb hown hG hI (by omega) eX_77 rfl inX7 tyX7 tyX7_ok nmX7 7 (by decide) kf_X7_35 rfl (ty := .int) (by decide +kernel) rfl rfl (Nat.le_of_ble_eq_true rfl) rfl hu dX7_takes_8 (fun H locs hI => ?_)
    refine lv_iconst (v := 1) hx hb dX7_takes_11 (by decide) ?_
    obtain ⟨rfl, rfl⟩ := sm2 hE
    exact xr_z rfl hx hb hr hlk hG hI dX7_takes_12
def X7_read_L17 : Nat → Int32 → Mem → Option (Int32 × Mem)
  | 0, _, _ => none
  | n17 + 1, x4, mu5 =>
    (if (mu5 77 2) ≤ x4 then (if (mu5 77 4) = 0 then (if (mu5 77 3) = 0 then some (mu5 77 2, mu5) else some ((-1), mu5)) else some (mu5 77 2, mu5)) else (if 150 ≤ x4 then (if (mu5 77 4) = 0 then (if (mu5 77 3) = 0 then some (mu5 77 2, mu5) else some ((-1), mu5)) else some (mu5 77 2, mu5)) else (rd 150 (mu5 78) x4).bind fun v6 => bd2 (X7_takes mu5 v6) fun (r7 : Bool) (mu8 : Mem) => (if (b2i r7) = 0 then some (x4, mu8) else X7_read_L17 n17 (x4 + 1) mu8)))
def X7_read (u : Mem) : Option (Int32 × Mem) :=
  (stF u 77 3 0).bind fun mu1 => (stF mu1 77 4 0).bind fun mu2 => (stF mu2 77 7 0).bind fun mu3 => X7_read_L17 fu 0 mu3
set_option maxHeartbeats 4000000 in
set_option maxRecDepth 100000 in
theorem c_X7_read {l : Launch} {D : va_G} {A : Nat → Nat} {cI cZ cD : ClassId} {u u1 : Mem} {r : Int32}  (hE : X7_read u = some (r, u1)) : Ct l yX7_read cX7_read 2 (some .int) (rmOf 4 87) D (tyL cI cZ cD) [.ref (A 77)] (wX A cI cZ cD u) (some (.int r)) (wX A cI cZ cD u1) := by
  refine Ct.ofW (by decide +kernel) (fun p e s m below meth c hC hI => ?_)
  obtain ⟨hx, hb, hml, hown, hr, hlk, hG⟩ := hC
  have hown : s.vm.findClass RX7 = some m.cls := hown
  have hl := lv_entry ([.ref (A 77)] : List Value) (n := 2) (Nat.le_of_ble_eq_true rfl)
  rw [lg_entry_eq]
  generalize (lg_sl ([.ref (A 77)] : List Value) ++ List.replicate (2 - (lg_sl ([.ref (A 77)] : List Value)).length) Slot.unset).toArray = ls at hl ⊢
  have hl : lv_has ls 2 [(0, .ref (A 77))] := hl
  unfold X7_read at hE
  refine lv_aload_n hx hb dX7_read_0 rfl (lv_at hl 0 rfl) ?_
  refine lv_iconst (v := 0) hx hb dX7_read_1 (by decide) ?_
  obtain ⟨mu1, hu, hE⟩ := bd1_some hE
  refine xg_put (C := RX7) (T := TX7) (M := 8) hx hb hown hG hI (by omega) eX_77 rfl inX7 tyX7 tyX7_ok nmX7 3 (by decide) kf_X7_22 rfl (ty := .int) (by decide +kernel) rfl rfl (Nat.le_of_ble_eq_true rfl) rfl hu dX7_read_2 (fun H locs hI => ?_)
  refine lv_aload_n hx hb dX7_read_5 rfl (lv_at hl 0 rfl) ?_
  refine lv_iconst (v := 0) hx hb dX7_read_6 (by decide) ?_
  obtain ⟨mu2, hu, hE⟩ := bd1_some hE
  refine xg_put (C := RX7) (T := TX7) (M := 8) hx hb hown hG hI (by omega) eX_77 rfl inX7 tyX7 tyX7_ok nmX7 4 (by decide) kf_X7_25 rfl (ty := .boolean) (by decide +kernel) (by decide +kernel) (by decide +kernel) (Nat.le_of_ble_eq_true rfl) rfl hu dX7_read_7 (fun H locs hI => ?_)
  refine lv_aload_n hx hb dX7_read_10 rfl (lv_at hl 0 rfl) ?_
  refine lv_iconst (v := 0) hx hb dX7_read_11 (by decide) ?_
  obtain ⟨mu3, hu, hE⟩ := bd1_some hE
  refine xg_put (C := RX7) (T := TX7) (M := 8) hx hb hown hG hI (by omega) eX_77 rfl inX7 tyX7 tyX7_ok nmX7 7 (by decide) kf_X7_35 rfl (ty := .int) (by decide +kernel) rfl rfl (Nat.le_of_ble_eq_true rfl) rfl hu dX7_read_12 (fun H locs hI => ?_)
  refine lv_iconst (v := 0) hx hb dX7_read_15 (by decide) ?_
  refine lv_istore_n (lv' := [(1, .int 0), (0, .ref (A 77))]) hx hb dX7_read_16 rfl hl (by decide) rfl (fun ls hl => ?_)
  have hL17 : ∀ (n17 : Nat) (x4 : Int32) (mu5 : Mem) (H : Heap) (locs : List Loc) (ls : Array Slot), X7_read_L17 n17 x4 mu5 = some (r, u1) → xI D (va_A (wX A cI cZ cD u) s.heap.size) s.heap (wX A cI cZ cD mu5) H locs → lv_has ls 2 [(0, .ref (A 77)), (1, .int x4)] → W p l e (rmOf 4 87) s m ([.ref (A 77)] : List Value).toArray below meth c H locs 0 0 (xQ D (tyL cI cZ cD) below ([.ref (A 77)] : List Value).toArray s (wX A cI cZ cD u) (some (.int r)) (wX A cI cZ cD u1)) (F0 m 17 ls []) := by
    intro n17
    induction n17 with
    | zero =>
      intro x4 mu5 H locs ls hE
      exact absurd hE (by simp [X7_read_L17])
    | succ n17 ih17 =>
      intro x4 mu5 H locs ls hE hI hl
      rw [X7_read_L17] at hE
      refine lv_iload_n hx hb dX7_read_17 rfl (lv_at hl 1 rfl) ?_
      refine lv_aload_n hx hb dX7_read_18 rfl (lv_at hl 0 rfl) ?_
      refine xg_get (C := RX7) (T := TX7) (M := 8) hx hb hown hG hI (by omega) eX_77 rfl inX7 2 (by decide) kf_X7_18 rfl dX7_read_19 ?_
      refine lv_icmp_ge (tgt := 53) hx hb dX7_read_22 (by decide) (fun c22 => ?_) (fun c22 => ?_)
      · rw [if_pos c22] at hE
        refine lv_aload_n hx hb dX7_read_53 rfl (lv_at hl 0 rfl) ?_
        refine xg_get (C := RX7) (T := TX7) (M := 8) hx hb hown hG hI (by omega) eX_77 rfl inX7 4 (by decide) kf_X7_25 rfl dX7_read_54 ?_
        refine lv_if_ne (tgt := 67) hx hb dX7_read_57 (by decide) (fun c57 => ?_) (fun c57 => ?_)
        · rw [if_neg c57] at hE
          refine lv_aload_n hx hb dX7_read_67 rfl (lv_at hl 0 rfl) ?_
          refine xg_get (C := RX7) (T := TX7) (M := 8) hx hb hown hG hI (by omega) eX_77 rfl inX7 2 (by decide) kf_X7_18 rfl dX7_read_68 ?_
          refine lv_goto (tgt := 75) hx hb dX7_read_71 (by decide) ?_
          obtain ⟨rfl, rfl⟩ := sm2 hE
          exact xr_i hx hb hr hlk hG hI dX7_read_75
        · rw [if_pos c57] at hE
          refine lv_aload_n hx hb dX7_read_60 rfl (lv_at hl 0 rfl) ?_
          refine xg_get (C := RX7) (T := TX7) (M := 8) hx hb hown hG hI (by omega) eX_77 rfl inX7 3 (by decide) kf_X7_22 rfl dX7_read_61 ?_
          refine lv_if_ne (tgt := 74) hx hb dX7_read_64 (by decide) (fun c64 => ?_) (fun c64 => ?_)
          · rw [if_neg c64] at hE
            refine lv_iconst (v := (-1)) hx hb dX7_read_74 (by decide) ?_
            obtain ⟨rfl, rfl⟩ := sm2 hE
            exact xr_i hx hb hr hlk hG hI dX7_read_75
          · rw [if_pos c64] at hE
            refine lv_aload_n hx hb dX7_read_67 rfl (lv_at hl 0 rfl) ?_
            refine xg_get (C := RX7) (T := TX7) (M := 8) hx hb hown hG hI (by omega) eX_77 rfl inX7 2 (by decide) kf_X7_18 rfl dX7_read_68 ?_
            refine lv_goto (tgt := 75) hx hb dX7_read_71 (by decide) ?_
            obtain ⟨rfl, rfl⟩ := sm2 hE
            exact xr_i hx hb hr hlk hG hI dX7_read_75
      · rw [if_neg c22] at hE
        refine lv_iload_n hx hb dX7_read_25 rfl (lv_at hl 1 rfl) ?_
        refine lv_sipush (v := 150) hx hb dX7_read_26 (by decide) ?_
        refine lv_icmp_ge (tgt := 53) hx hb dX7_read_29 (by decide) (fun c29 => ?_) (fun c29 => ?_)
        · rw [if_pos c29] at hE
          refine lv_aload_n hx hb dX7_read_53 rfl (lv_at hl 0 rfl) ?_
          refine xg_get (C := RX7) (T := TX7) (M := 8) hx hb hown hG hI (by omega) eX_77 rfl inX7 4 (by decide) kf_X7_25 rfl dX7_read_54 ?_
          refine lv_if_ne (tgt := 67) hx hb dX7_read_57 (by decide) (fun c57 => ?_) (fun c57 => ?_)
          · rw [if_neg c57] at hE
            refine lv_aload_n hx hb dX7_read_67 rfl (lv_at hl 0 rfl) ?_
            refine xg_get (C := RX7) (T := TX7) (M := 8) hx hb hown hG hI (by omega) eX_77 rfl inX7 2 (by decide) kf_X7_18 rfl dX7_read_68 ?_
            refine lv_goto (tgt := 75) hx hb dX7_read_71 (by decide) ?_
            obtain ⟨rfl, rfl⟩ := sm2 hE
            exact xr_i hx hb hr hlk hG hI dX7_read_75
          · rw [if_pos c57] at hE
            refine lv_aload_n hx hb dX7_read_60 rfl (lv_at hl 0 rfl) ?_
            refine xg_get (C := RX7) (T := TX7) (M := 8) hx hb hown hG hI (by omega) eX_77 rfl inX7 3 (by decide) kf_X7_22 rfl dX7_read_61 ?_
            refine lv_if_ne (tgt := 74) hx hb dX7_read_64 (by decide) (fun c64 => ?_) (fun c64 => ?_)
            · rw [if_neg c64] at hE
              refine lv_iconst (v := (-1)) hx hb dX7_read_74 (by decide) ?_
              obtain ⟨rfl, rfl⟩ := sm2 hE
              exact xr_i hx hb hr hlk hG hI dX7_read_75
            · rw [if_pos c64] at hE
              refine lv_aload_n hx hb dX7_read_67 rfl (lv_at hl 0 rfl) ?_
              refine xg_get (C := RX7) (T := TX7) (M := 8) hx hb hown hG hI (by omega) eX_77 rfl inX7 2 (by decide) kf_X7_18 rfl dX7_read_68 ?_
              refine lv_goto (tgt := 75) hx hb dX7_read_71 (by decide) ?_
              obtain ⟨rfl, rfl⟩ := sm2 hE
              exact xr_i hx hb hr hlk hG hI dX7_read_75
        · rw [if_neg c29] at hE
          refine lv_aload_n hx hb dX7_read_32 rfl (lv_at hl 0 rfl) ?_
          refine lv_aload_n hx hb dX7_read_33 rfl (lv_at hl 0 rfl) ?_
          refine xg_get (C := RX7) (T := TX7) (M := 8) hx hb hown hG hI (by omega) eX_77 rfl inX7 0 (by decide) kf_X7_9 rfl dX7_read_34 ?_
          refine lv_iload_n hx hb dX7_read_37 rfl (lv_at hl 1 rfl) ?_
          obtain ⟨v6, hv, hE⟩ := bd1_some hE
          refine xg_iald 0 hx hb hG hI (by omega) eX_78 rfl hv dX7_read_38 ?_
          obtain ⟨r7, mu8, hc, hE⟩ := bd2_some hE
          refine xc_V1 (rest := []) (c_X7_takes hc) mw_X7_takes km_X7_38 hx hb hml hown hG hI xA_of (wG_atE (by omega) eX_77) rfl rfl ⟨Nat.le_of_ble_eq_true rfl, Nat.le_of_ble_eq_true rfl⟩ rfl hl.1 rfl (Nat.le_of_ble_eq_true rfl) dX7_read_39 (fun H locs hI => ?_)
          refine lv_if_ne (tgt := 47) hx hb dX7_read_42 (by decide) (fun c42 => ?_) (fun c42 => ?_)
          · rw [if_neg c42] at hE
            refine lv_iinc (v := x4 + 1) (lv' := [(1, .int (x4 + 1)), (0, .ref (A 77))]) hx hb dX7_read_47 hl (k := 1) rfl rfl (by decide) rfl (fun ls hl => ?_)
            refine lv_goto (tgt := 17) hx hb dX7_read_50 (by decide) ?_
            exact ih17 _ _ _ _ _ hE hI (lv_sub hl [1, 0] rfl)
          · rw [if_pos c42] at hE
            refine lv_iload_n hx hb dX7_read_45 rfl (lv_at hl 1 rfl) ?_
            obtain ⟨rfl, rfl⟩ := sm2 hE
            exact xr_i hx hb hr hlk hG hI dX7_read_46
  exact hL17 _ _ _ _ _ _ hE hI (lv_sub hl [1, 0] rfl)
