def X8_refuse (u : Mem) (p1 : Int32) : Option (Int32 × Mem) :=
  (if p1 = (-2) then (stF u 58 7 ((u 58 7) + 1)).bind fun mu3 => some (p1, mu3) else (if p1 = (-3) then (stF u 58 8 ((u 58 8) + 1)).bind fun mu2 => some (p1, mu2) else (stF u 58 9 ((u 58 9) + 1)).bind fun mu1 => some (p1, mu1)))
set_option maxHeartbeats 4000000 in
set_option maxRecDepth 100000 in
theorem c_X8_refuse {l : Launch} {D : va_G} {A : Nat → Nat} {cI cZ cD : ClassId} {u u1 : Mem} {p1 : Int32} {r : Int32}  (hE : X8_refuse u p1 = some (r, u1)) : Ct l yX8_refuse cX8_refuse 2 (some .int) (rmOf 0 0) D (tyL cI cZ cD) [.ref (A 58), .int p1] (wX A cI cZ cD u) (some (.int r)) (wX A cI cZ cD u1) := by
  refine Ct.ofW (by decide +kernel) (fun p e s m below meth c hC hI => ?_)
  obtain ⟨hx, hb, hml, hown, hr, hlk, hG⟩ := hC
  have hown : s.vm.findClass RX8 = some m.cls := hown
  have hl := lv_entry ([.ref (A 58), .int p1] : List Value) (n := 2) (Nat.le_of_ble_eq_true rfl)
  rw [lg_entry_eq]
  generalize (lg_sl ([.ref (A 58), .int p1] : List Value) ++ List.replicate (2 - (lg_sl ([.ref (A 58), .int p1] : List Value)).length) Slot.unset).toArray = ls at hl ⊢
  have hl : lv_has ls 2 [(0, .ref (A 58)), (1, .int p1)] := hl
  unfold X8_refuse at hE
  refine lv_iload_n hx hb dX8_refuse_0 rfl (lv_at hl 1 rfl) ?_
  refine lv_bipush (v := (-2)) hx hb dX8_refuse_1 (by decide) ?_
  refine lv_icmp_ne (tgt := 19) hx hb dX8_refuse_3 (by decide) (fun c3 => ?_) (fun c3 => ?_)
  · rw [if_neg c3] at hE
    refine lv_iload_n hx hb dX8_refuse_19 rfl (lv_at hl 1 rfl) ?_
    refine lv_bipush (v := (-3)) hx hb dX8_refuse_20 (by decide) ?_
    refine lv_icmp_ne (tgt := 38) hx hb dX8_refuse_22 (by decide) (fun c22 => ?_) (fun c22 => ?_)
    · rw [if_neg c22] at hE
      refine lv_aload_n hx hb dX8_refuse_38 rfl (lv_at hl 0 rfl) ?_
      refine lv_dup hx hb dX8_refuse_39 rfl ?_
      refine xg_get (C := RX8) (T := TX8) (M := 10) hx hb hown hG hI (by omega) eX_58 rfl inX8 9 (by decide) kf_X8_61 rfl dX8_refuse_40 ?_
      refine lv_iconst (v := 1) hx hb dX8_refuse_43 (by decide) ?_
      refine lv_iadd hx hb dX8_refuse_44 ?_
      obtain ⟨mu1, hu, hE⟩ := bd1_some hE
      refine xg_put (C := RX8) (T := TX8) (M := 10) hx hb hown hG hI (by omega) eX_58 rfl inX8 tyX8 tyX8_ok nmX8 9 (by decide) kf_X8_61 rfl (ty := .int) (by decide +kernel) rfl rfl (Nat.le_of_ble_eq_true rfl) rfl hu dX8_refuse_45 (fun H locs hI => ?_)
      refine lv_iload_n hx hb dX8_refuse_48 rfl (lv_at hl 1 rfl) ?_
      obtain ⟨rfl, rfl⟩ := sm2 hE
      exact xr_i hx hb hr hlk hG hI dX8_refuse_49
    · rw [if_pos c22] at hE
      refine lv_aload_n hx hb dX8_refuse_25 rfl (lv_at hl 0 rfl) ?_
      refine lv_dup hx hb dX8_refuse_26 rfl ?_
      refine xg_get (C := RX8) (T := TX8) (M := 10) hx hb hown hG hI (by omega) eX_58 rfl inX8 8 (by decide) kf_X8_58 rfl dX8_refuse_27 ?_
      refine lv_iconst (v := 1) hx hb dX8_refuse_30 (by decide) ?_
      refine lv_iadd hx hb dX8_refuse_31 ?_
      obtain ⟨mu2, hu, hE⟩ := bd1_some hE
      refine xg_put (C := RX8) (T := TX8) (M := 10) hx hb hown hG hI (by omega) eX_58 rfl inX8 tyX8 tyX8_ok nmX8 8 (by decide) kf_X8_58 rfl (ty := .int) (by decide +kernel) rfl rfl (Nat.le_of_ble_eq_true rfl) rfl hu dX8_refuse_32 (fun H locs hI => ?_)
      refine lv_goto (tgt := 48) hx hb dX8_refuse_35 (by decide) ?_
      refine lv_iload_n hx hb dX8_refuse_48 rfl (lv_at hl 1 rfl) ?_
      obtain ⟨rfl, rfl⟩ := sm2 hE
      exact xr_i hx hb hr hlk hG hI dX8_refuse_49
  · rw [if_pos c3] at hE
    refine lv_aload_n hx hb dX8_refuse_6 rfl (lv_at hl 0 rfl) ?_
    refine lv_dup hx hb dX8_refuse_7 rfl ?_
    refine xg_get (C := RX8) (T := TX8) (M := 10) hx hb hown hG hI (by omega) eX_58 rfl inX8 7 (by decide) kf_X8_54 rfl dX8_refuse_8 ?_
    refine lv_iconst (v := 1) hx hb dX8_refuse_11 (by decide) ?_
    refine lv_iadd hx hb dX8_refuse_12 ?_
    obtain ⟨mu3, hu, hE⟩ := bd1_some hE
    refine xg_put (C := RX8) (T := TX8) (M := 10) hx hb hown hG hI (by omega) eX_58 rfl inX8 tyX8 tyX8_ok nmX8 7 (by decide) kf_X8_54 rfl (ty := .int) (by decide +kernel) rfl rfl (Nat.le_of_ble_eq_true rfl) rfl hu dX8_refuse_13 (fun H locs hI => ?_)
    refine lv_goto (tgt := 48) hx hb dX8_refuse_16 (by decide) ?_
    refine lv_iload_n hx hb dX8_refuse_48 rfl (lv_at hl 1 rfl) ?_
    obtain ⟨rfl, rfl⟩ := sm2 hE
    exact xr_i hx hb hr hlk hG hI dX8_refuse_49
def X8_settled (u : Mem) (p1 : Int32) : Option (Int32 × Mem) :=
  (if 0 ≤ p1 then (X1_keep u 1 : Option Mem).bind fun (mu1 : Mem) => (stF mu1 61 5 1).bind fun mu2 => some (p1, mu2) else bd2 (X8_refuse u p1) fun (r3 : Int32) (mu4 : Mem) => some (r3, mu4))
set_option maxHeartbeats 4000000 in
set_option maxRecDepth 100000 in
theorem c_X8_settled {l : Launch} {D : va_G} {A : Nat → Nat} {cI cZ cD : ClassId} {u u1 : Mem} {p1 : Int32} {r : Int32}  (hE : X8_settled u p1 = some (r, u1)) : Ct l yX8_settled cX8_settled 2 (some .int) (rmOf 4 82) D (tyL cI cZ cD) [.ref (A 58), .int p1] (wX A cI cZ cD u) (some (.int r)) (wX A cI cZ cD u1) := by
  refine Ct.ofW (by decide +kernel) (fun p e s m below meth c hC hI => ?_)
  obtain ⟨hx, hb, hml, hown, hr, hlk, hG⟩ := hC
  have hown : s.vm.findClass RX8 = some m.cls := hown
  have hl := lv_entry ([.ref (A 58), .int p1] : List Value) (n := 2) (Nat.le_of_ble_eq_true rfl)
  rw [lg_entry_eq]
  generalize (lg_sl ([.ref (A 58), .int p1] : List Value) ++ List.replicate (2 - (lg_sl ([.ref (A 58), .int p1] : List Value)).length) Slot.unset).toArray = ls at hl ⊢
  have hl : lv_has ls 2 [(0, .ref (A 58)), (1, .int p1)] := hl
  unfold X8_settled at hE
  refine lv_iload_n hx hb dX8_settled_0 rfl (lv_at hl 1 rfl) ?_
  refine lv_if_ge (tgt := 10) hx hb dX8_settled_1 (by decide) (fun c1 => ?_) (fun c1 => ?_)
  · rw [if_pos c1] at hE
    refine lv_aload_n hx hb dX8_settled_10 rfl (lv_at hl 0 rfl) ?_
    refine xg_get (C := RX8) (T := TX8) (M := 10) hx hb hown hG hI (by omega) eX_58 rfl inX8 2 (by decide) kf_X8_22 rfl dX8_settled_11 ?_
    refine lv_aload_n hx hb dX8_settled_14 rfl (lv_at hl 0 rfl) ?_
    refine xg_get (C := RX8) (T := TX8) (M := 10) hx hb hown hG hI (by omega) eX_58 rfl inX8 1 (by decide) kf_X8_16 rfl dX8_settled_15 ?_
    obtain ⟨mu1, hc, hE⟩ := bd1_some hE
    refine xc_V0 (rest := []) (c_X1_keep (by omega) hc) mw_X1_keep km_X8_219 hx hb hml hown hG hI xA_of (wG_atE (by omega) eX_59) rfl rfl ⟨Nat.le_of_ble_eq_true rfl, Nat.le_of_ble_eq_true rfl⟩ rfl hl.1 rfl (Nat.le_of_ble_eq_true rfl) dX8_settled_18 (fun H locs hI => ?_)
    refine lv_aload_n hx hb dX8_settled_21 rfl (lv_at hl 0 rfl) ?_
    refine xg_get (C := RX8) (T := TX8) (M := 10) hx hb hown hG hI (by omega) eX_58 rfl inX8 3 (by decide) kf_X8_29 rfl dX8_settled_22 ?_
    refine lv_iconst (v := 1) hx hb dX8_settled_25 (by decide) ?_
    obtain ⟨mu2, hu, hE⟩ := bd1_some hE
    refine xg_putN (C := RX3) (T := TX3) (M := 6) hx hb hown hG hI (by omega) eX_61 rfl inX3 tyX3 tyX3_ok nmX3 5 (by decide) kf_X8_197 rfl (ty := .boolean) (by decide +kernel) (by decide +kernel) (by decide +kernel) (Nat.le_of_ble_eq_true rfl) rfl hu dX8_settled_26 (fun H locs hI => ?_)
    refine lv_iload_n hx hb dX8_settled_29 rfl (lv_at hl 1 rfl) ?_
    obtain ⟨rfl, rfl⟩ := sm2 hE
    exact xr_i hx hb hr hlk hG hI dX8_settled_30
  · rw [if_neg c1] at hE
    refine lv_aload_n hx hb dX8_settled_4 rfl (lv_at hl 0 rfl) ?_
    refine lv_iload_n hx hb dX8_settled_5 rfl (lv_at hl 1 rfl) ?_
    obtain ⟨r3, mu4, hc, hE⟩ := bd2_some hE
    refine xc_V1 (rest := []) (c_X8_refuse hc) mw_X8_refuse km_X8_109 hx hb hml hown hG hI xA_of (wG_atE (by omega) eX_58) rfl rfl ⟨Nat.le_of_ble_eq_true rfl, Nat.le_of_ble_eq_true rfl⟩ rfl hl.1 rfl (Nat.le_of_ble_eq_true rfl) dX8_settled_6 (fun H locs hI => ?_)
    obtain ⟨rfl, rfl⟩ := sm2 hE
    exact xr_i hx hb hr hlk hG hI dX8_settled_9
def X8_adds (u : Mem) (p1 : Int32) (p2 : Int32) (p3 : Int32) (p4 : Int32) (p5 : Int32) : Option (Int32 × Mem) :=
  (X0_copyFrom u 1 0 : Option Mem).bind fun (mu1 : Mem) => bd2 (X0_add mu1 0 p1 p2 p3 p4 p5) fun (r2 : Int32) (mu3 : Mem) => bd2 (X8_settled mu3 r2) fun (r4 : Int32) (mu5 : Mem) => some (r4, mu5)
set_option maxHeartbeats 4000000 in
set_option maxRecDepth 100000 in
theorem c_X8_adds {l : Launch} {D : va_G} {A : Nat → Nat} {cI cZ cD : ClassId} {u u1 : Mem} {p1 : Int32} {p2 : Int32} {p3 : Int32} {p4 : Int32} {p5 : Int32} {r : Int32}  (hE : X8_adds u p1 p2 p3 p4 p5 = some (r, u1)) : Ct l yX8_adds cX8_adds 6 (some .int) (rmOf 5 103) D (tyL cI cZ cD) [.ref (A 58), .int p1, .int p2, .int p3, .int p4, .int p5] (wX A cI cZ cD u) (some (.int r)) (wX A cI cZ cD u1) := by
  refine Ct.ofW (by decide +kernel) (fun p e s m below meth c hC hI => ?_)
  obtain ⟨hx, hb, hml, hown, hr, hlk, hG⟩ := hC
  have hown : s.vm.findClass RX8 = some m.cls := hown
  have hl := lv_entry ([.ref (A 58), .int p1, .int p2, .int p3, .int p4, .int p5] : List Value) (n := 6) (Nat.le_of_ble_eq_true rfl)
  rw [lg_entry_eq]
  generalize (lg_sl ([.ref (A 58), .int p1, .int p2, .int p3, .int p4, .int p5] : List Value) ++ List.replicate (6 - (lg_sl ([.ref (A 58), .int p1, .int p2, .int p3, .int p4, .int p5] : List Value)).length) Slot.unset).toArray = ls at hl ⊢
  have hl : lv_has ls 6 [(0, .ref (A 58)), (1, .int p1), (2, .int p2), (3, .int p3), (4, .int p4), (5, .int p5)] := hl
  unfold X8_adds at hE
  refine lv_aload_n hx hb dX8_adds_0 rfl (lv_at hl 0 rfl) ?_
  refine xg_get (C := RX8) (T := TX8) (M := 10) hx hb hown hG hI (by omega) eX_58 rfl inX8 1 (by decide) kf_X8_16 rfl dX8_adds_1 ?_
  refine lv_aload_n hx hb dX8_adds_4 rfl (lv_at hl 0 rfl) ?_
  refine xg_get (C := RX8) (T := TX8) (M := 10) hx hb hown hG hI (by omega) eX_58 rfl inX8 0 (by decide) kf_X8_12 rfl dX8_adds_5 ?_
  obtain ⟨mu1, hc, hE⟩ := bd1_some hE
  refine xc_V0 (rest := []) (c_X0_copyFrom (by omega) (by omega) hc) mw_X0_copyFrom km_X8_64 hx hb hml hown hG hI xA_of (wG_atE (by omega) (eX_D (d := 1) (by omega))) rfl rfl ⟨Nat.le_of_ble_eq_true rfl, Nat.le_of_ble_eq_true rfl⟩ rfl hl.1 rfl (Nat.le_of_ble_eq_true rfl) dX8_adds_8 (fun H locs hI => ?_)
  refine lv_aload_n hx hb dX8_adds_11 rfl (lv_at hl 0 rfl) ?_
  refine lv_aload_n hx hb dX8_adds_12 rfl (lv_at hl 0 rfl) ?_
  refine xg_get (C := RX8) (T := TX8) (M := 10) hx hb hown hG hI (by omega) eX_58 rfl inX8 0 (by decide) kf_X8_12 rfl dX8_adds_13 ?_
  refine lv_iload_n hx hb dX8_adds_16 rfl (lv_at hl 1 rfl) ?_
  refine lv_iload_n hx hb dX8_adds_17 rfl (lv_at hl 2 rfl) ?_
  refine lv_iload_n hx hb dX8_adds_18 rfl (lv_at hl 3 rfl) ?_
  refine lv_iload hx hb dX8_adds_19 (lv_at hl 4 rfl) ?_
  refine lv_iload hx hb dX8_adds_21 (lv_at hl 5 rfl) ?_
  obtain ⟨r2, mu3, hc, hE⟩ := bd2_some hE
  refine xc_V1 (rest := [.ref (A 58)]) (c_X0_add (by omega) hc) mw_X0_add km_X8_68 hx hb hml hown hG hI xA_of (wG_atE (by omega) (eX_D (d := 0) (by omega))) rfl rfl ⟨Nat.le_of_ble_eq_true rfl, Nat.le_of_ble_eq_true rfl⟩ rfl hl.1 rfl (Nat.le_of_ble_eq_true rfl) dX8_adds_23 (fun H locs hI => ?_)
  obtain ⟨r4, mu5, hc, hE⟩ := bd2_some hE
  refine xc_V1 (rest := []) (c_X8_settled hc) mw_X8_settled km_X8_72 hx hb hml hown hG hI xA_of (wG_atE (by omega) eX_58) rfl rfl ⟨Nat.le_of_ble_eq_true rfl, Nat.le_of_ble_eq_true rfl⟩ rfl hl.1 rfl (Nat.le_of_ble_eq_true rfl) dX8_adds_26 (fun H locs hI => ?_)
  obtain ⟨rfl, rfl⟩ := sm2 hE
  exact xr_i hx hb hr hlk hG hI dX8_adds_29
def X8_moves (u : Mem) (p1 : Int32) (p2 : Int32) (p3 : Int32) (p4 : Int32) : Option (Int32 × Mem) :=
  (X0_copyFrom u 1 0 : Option Mem).bind fun (mu1 : Mem) => bd2 (X0_move mu1 0 p1 p2 p3 p4) fun (r2 : Int32) (mu3 : Mem) => bd2 (X8_settled mu3 r2) fun (r4 : Int32) (mu5 : Mem) => some (r4, mu5)
set_option maxHeartbeats 4000000 in
set_option maxRecDepth 100000 in
theorem c_X8_moves {l : Launch} {D : va_G} {A : Nat → Nat} {cI cZ cD : ClassId} {u u1 : Mem} {p1 : Int32} {p2 : Int32} {p3 : Int32} {p4 : Int32} {r : Int32}  (hE : X8_moves u p1 p2 p3 p4 = some (r, u1)) : Ct l yX8_moves cX8_moves 5 (some .int) (rmOf 5 103) D (tyL cI cZ cD) [.ref (A 58), .int p1, .int p2, .int p3, .int p4] (wX A cI cZ cD u) (some (.int r)) (wX A cI cZ cD u1) := by
  refine Ct.ofW (by decide +kernel) (fun p e s m below meth c hC hI => ?_)
  obtain ⟨hx, hb, hml, hown, hr, hlk, hG⟩ := hC
  have hown : s.vm.findClass RX8 = some m.cls := hown
  have hl := lv_entry ([.ref (A 58), .int p1, .int p2, .int p3, .int p4] : List Value) (n := 5) (Nat.le_of_ble_eq_true rfl)
  rw [lg_entry_eq]
  generalize (lg_sl ([.ref (A 58), .int p1, .int p2, .int p3, .int p4] : List Value) ++ List.replicate (5 - (lg_sl ([.ref (A 58), .int p1, .int p2, .int p3, .int p4] : List Value)).length) Slot.unset).toArray = ls at hl ⊢
  have hl : lv_has ls 5 [(0, .ref (A 58)), (1, .int p1), (2, .int p2), (3, .int p3), (4, .int p4)] := hl
  unfold X8_moves at hE
  refine lv_aload_n hx hb dX8_moves_0 rfl (lv_at hl 0 rfl) ?_
  refine xg_get (C := RX8) (T := TX8) (M := 10) hx hb hown hG hI (by omega) eX_58 rfl inX8 1 (by decide) kf_X8_16 rfl dX8_moves_1 ?_
  refine lv_aload_n hx hb dX8_moves_4 rfl (lv_at hl 0 rfl) ?_
  refine xg_get (C := RX8) (T := TX8) (M := 10) hx hb hown hG hI (by omega) eX_58 rfl inX8 0 (by decide) kf_X8_12 rfl dX8_moves_5 ?_
  obtain ⟨mu1, hc, hE⟩ := bd1_some hE
  refine xc_V0 (rest := []) (c_X0_copyFrom (by omega) (by omega) hc) mw_X0_copyFrom km_X8_64 hx hb hml hown hG hI xA_of (wG_atE (by omega) (eX_D (d := 1) (by omega))) rfl rfl ⟨Nat.le_of_ble_eq_true rfl, Nat.le_of_ble_eq_true rfl⟩ rfl hl.1 rfl (Nat.le_of_ble_eq_true rfl) dX8_moves_8 (fun H locs hI => ?_)
  refine lv_aload_n hx hb dX8_moves_11 rfl (lv_at hl 0 rfl) ?_
  refine lv_aload_n hx hb dX8_moves_12 rfl (lv_at hl 0 rfl) ?_
  refine xg_get (C := RX8) (T := TX8) (M := 10) hx hb hown hG hI (by omega) eX_58 rfl inX8 0 (by decide) kf_X8_12 rfl dX8_moves_13 ?_
  refine lv_iload_n hx hb dX8_moves_16 rfl (lv_at hl 1 rfl) ?_
  refine lv_iload_n hx hb dX8_moves_17 rfl (lv_at hl 2 rfl) ?_
  refine lv_iload_n hx hb dX8_moves_18 rfl (lv_at hl 3 rfl) ?_
  refine lv_iload hx hb dX8_moves_19 (lv_at hl 4 rfl) ?_
  obtain ⟨r2, mu3, hc, hE⟩ := bd2_some hE
  refine xc_V1 (rest := [.ref (A 58)]) (c_X0_move (by omega) hc) mw_X0_move km_X8_76 hx hb hml hown hG hI xA_of (wG_atE (by omega) (eX_D (d := 0) (by omega))) rfl rfl ⟨Nat.le_of_ble_eq_true rfl, Nat.le_of_ble_eq_true rfl⟩ rfl hl.1 rfl (Nat.le_of_ble_eq_true rfl) dX8_moves_21 (fun H locs hI => ?_)
  obtain ⟨r4, mu5, hc, hE⟩ := bd2_some hE
  refine xc_V1 (rest := []) (c_X8_settled hc) mw_X8_settled km_X8_72 hx hb hml hown hG hI xA_of (wG_atE (by omega) eX_58) rfl rfl ⟨Nat.le_of_ble_eq_true rfl, Nat.le_of_ble_eq_true rfl⟩ rfl hl.1 rfl (Nat.le_of_ble_eq_true rfl) dX8_moves_24 (fun H locs hI => ?_)
  obtain ⟨rfl, rfl⟩ := sm2 hE
  exact xr_i hx hb hr hlk hG hI dX8_moves_27
def X8_renames (u : Mem) (p1 : Int32) (p2 : Int32) (p3 : Int32) : Option (Int32 × Mem) :=
  (X0_copyFrom u 1 0 : Option Mem).bind fun (mu1 : Mem) => bd2 (X0_retell mu1 0 p1 p2 2 p3) fun (r2 : Int32) (mu3 : Mem) => bd2 (X8_settled mu3 r2) fun (r4 : Int32) (mu5 : Mem) => some (r4, mu5)
set_option maxHeartbeats 4000000 in
set_option maxRecDepth 100000 in
theorem c_X8_renames {l : Launch} {D : va_G} {A : Nat → Nat} {cI cZ cD : ClassId} {u u1 : Mem} {p1 : Int32} {p2 : Int32} {p3 : Int32} {r : Int32}  (hE : X8_renames u p1 p2 p3 = some (r, u1)) : Ct l yX8_renames cX8_renames 4 (some .int) (rmOf 5 103) D (tyL cI cZ cD) [.ref (A 58), .int p1, .int p2, .int p3] (wX A cI cZ cD u) (some (.int r)) (wX A cI cZ cD u1) := by
  refine Ct.ofW (by decide +kernel) (fun p e s m below meth c hC hI => ?_)
  obtain ⟨hx, hb, hml, hown, hr, hlk, hG⟩ := hC
  have hown : s.vm.findClass RX8 = some m.cls := hown
  have hl := lv_entry ([.ref (A 58), .int p1, .int p2, .int p3] : List Value) (n := 4) (Nat.le_of_ble_eq_true rfl)
  rw [lg_entry_eq]
  generalize (lg_sl ([.ref (A 58), .int p1, .int p2, .int p3] : List Value) ++ List.replicate (4 - (lg_sl ([.ref (A 58), .int p1, .int p2, .int p3] : List Value)).length) Slot.unset).toArray = ls at hl ⊢
  have hl : lv_has ls 4 [(0, .ref (A 58)), (1, .int p1), (2, .int p2), (3, .int p3)] := hl
  unfold X8_renames at hE
  refine lv_aload_n hx hb dX8_renames_0 rfl (lv_at hl 0 rfl) ?_
  refine xg_get (C := RX8) (T := TX8) (M := 10) hx hb hown hG hI (by omega) eX_58 rfl inX8 1 (by decide) kf_X8_16 rfl dX8_renames_1 ?_
  refine lv_aload_n hx hb dX8_renames_4 rfl (lv_at hl 0 rfl) ?_
  refine xg_get (C := RX8) (T := TX8) (M := 10) hx hb hown hG hI (by omega) eX_58 rfl inX8 0 (by decide) kf_X8_12 rfl dX8_renames_5 ?_
  obtain ⟨mu1, hc, hE⟩ := bd1_some hE
  refine xc_V0 (rest := []) (c_X0_copyFrom (by omega) (by omega) hc) mw_X0_copyFrom km_X8_64 hx hb hml hown hG hI xA_of (wG_atE (by omega) (eX_D (d := 1) (by omega))) rfl rfl ⟨Nat.le_of_ble_eq_true rfl, Nat.le_of_ble_eq_true rfl⟩ rfl hl.1 rfl (Nat.le_of_ble_eq_true rfl) dX8_renames_8 (fun H locs hI => ?_)
  refine lv_aload_n hx hb dX8_renames_11 rfl (lv_at hl 0 rfl) ?_
  refine lv_aload_n hx hb dX8_renames_12 rfl (lv_at hl 0 rfl) ?_
  refine xg_get (C := RX8) (T := TX8) (M := 10) hx hb hown hG hI (by omega) eX_58 rfl inX8 0 (by decide) kf_X8_12 rfl dX8_renames_13 ?_
  refine lv_iload_n hx hb dX8_renames_16 rfl (lv_at hl 1 rfl) ?_
  refine lv_iload_n hx hb dX8_renames_17 rfl (lv_at hl 2 rfl) ?_
  refine lv_iconst (v := 2) hx hb dX8_renames_18 (by decide) ?_
  refine lv_iload_n hx hb dX8_renames_19 rfl (lv_at hl 3 rfl) ?_
  obtain ⟨r2, mu3, hc, hE⟩ := bd2_some hE
  refine xc_V1 (rest := [.ref (A 58)]) (c_X0_retell (by omega) hc) mw_X0_retell km_X8_80 hx hb hml hown hG hI xA_of (wG_atE (by omega) (eX_D (d := 0) (by omega))) rfl rfl ⟨Nat.le_of_ble_eq_true rfl, Nat.le_of_ble_eq_true rfl⟩ rfl hl.1 rfl (Nat.le_of_ble_eq_true rfl) dX8_renames_20 (fun H locs hI => ?_)
  obtain ⟨r4, mu5, hc, hE⟩ := bd2_some hE
  refine xc_V1 (rest := []) (c_X8_settled hc) mw_X8_settled km_X8_72 hx hb hml hown hG hI xA_of (wG_atE (by omega) eX_58) rfl rfl ⟨Nat.le_of_ble_eq_true rfl, Nat.le_of_ble_eq_true rfl⟩ rfl hl.1 rfl (Nat.le_of_ble_eq_true rfl) dX8_renames_23 (fun H locs hI => ?_)
  obtain ⟨rfl, rfl⟩ := sm2 hE
  exact xr_i hx hb hr hlk hG hI dX8_renames_26
def X8_edits (u : Mem) (p1 : Int32) (p2 : Int32) (p3 : Int32) : Option (Int32 × Mem) :=
  (X0_copyFrom u 1 0 : Option Mem).bind fun (mu1 : Mem) => bd2 (X0_retell mu1 0 p1 p2 3 p3) fun (r2 : Int32) (mu3 : Mem) => bd2 (X8_settled mu3 r2) fun (r4 : Int32) (mu5 : Mem) => some (r4, mu5)
set_option maxHeartbeats 4000000 in
set_option maxRecDepth 100000 in
theorem c_X8_edits {l : Launch} {D : va_G} {A : Nat → Nat} {cI cZ cD : ClassId} {u u1 : Mem} {p1 : Int32} {p2 : Int32} {p3 : Int32} {r : Int32}  (hE : X8_edits u p1 p2 p3 = some (r, u1)) : Ct l yX8_edits cX8_edits 4 (some .int) (rmOf 5 103) D (tyL cI cZ cD) [.ref (A 58), .int p1, .int p2, .int p3] (wX A cI cZ cD u) (some (.int r)) (wX A cI cZ cD u1) := by
  refine Ct.ofW (by decide +kernel) (fun p e s m below meth c hC hI => ?_)
  obtain ⟨hx, hb, hml, hown, hr, hlk, hG⟩ := hC
  have hown : s.vm.findClass RX8 = some m.cls := hown
  have hl := lv_entry ([.ref (A 58), .int p1, .int p2, .int p3] : List Value) (n := 4) (Nat.le_of_ble_eq_true rfl)
  rw [lg_entry_eq]
  generalize (lg_sl ([.ref (A 58), .int p1, .int p2, .int p3] : List Value) ++ List.replicate (4 - (lg_sl ([.ref (A 58), .int p1, .int p2, .int p3] : List Value)).length) Slot.unset).toArray = ls at hl ⊢
  have hl : lv_has ls 4 [(0, .ref (A 58)), (1, .int p1), (2, .int p2), (3, .int p3)] := hl
  unfold X8_edits at hE
  refine lv_aload_n hx hb dX8_edits_0 rfl (lv_at hl 0 rfl) ?_
  refine xg_get (C := RX8) (T := TX8) (M := 10) hx hb hown hG hI (by omega) eX_58 rfl inX8 1 (by decide) kf_X8_16 rfl dX8_edits_1 ?_
  refine lv_aload_n hx hb dX8_edits_4 rfl (lv_at hl 0 rfl) ?_
  refine xg_get (C := RX8) (T := TX8) (M := 10) hx hb hown hG hI (by omega) eX_58 rfl inX8 0 (by decide) kf_X8_12 rfl dX8_edits_5 ?_
  obtain ⟨mu1, hc, hE⟩ := bd1_some hE
  refine xc_V0 (rest := []) (c_X0_copyFrom (by omega) (by omega) hc) mw_X0_copyFrom km_X8_64 hx hb hml hown hG hI xA_of (wG_atE (by omega) (eX_D (d := 1) (by omega))) rfl rfl ⟨Nat.le_of_ble_eq_true rfl, Nat.le_of_ble_eq_true rfl⟩ rfl hl.1 rfl (Nat.le_of_ble_eq_true rfl) dX8_edits_8 (fun H locs hI => ?_)
  refine lv_aload_n hx hb dX8_edits_11 rfl (lv_at hl 0 rfl) ?_
  refine lv_aload_n hx hb dX8_edits_12 rfl (lv_at hl 0 rfl) ?_
  refine xg_get (C := RX8) (T := TX8) (M := 10) hx hb hown hG hI (by omega) eX_58 rfl inX8 0 (by decide) kf_X8_12 rfl dX8_edits_13 ?_
  refine lv_iload_n hx hb dX8_edits_16 rfl (lv_at hl 1 rfl) ?_
  refine lv_iload_n hx hb dX8_edits_17 rfl (lv_at hl 2 rfl) ?_
  refine lv_iconst (v := 3) hx hb dX8_edits_18 (by decide) ?_
  refine lv_iload_n hx hb dX8_edits_19 rfl (lv_at hl 3 rfl) ?_
  obtain ⟨r2, mu3, hc, hE⟩ := bd2_some hE
  refine xc_V1 (rest := [.ref (A 58)]) (c_X0_retell (by omega) hc) mw_X0_retell km_X8_80 hx hb hml hown hG hI xA_of (wG_atE (by omega) (eX_D (d := 0) (by omega))) rfl rfl ⟨Nat.le_of_ble_eq_true rfl, Nat.le_of_ble_eq_true rfl⟩ rfl hl.1 rfl (Nat.le_of_ble_eq_true rfl) dX8_edits_20 (fun H locs hI => ?_)
  obtain ⟨r4, mu5, hc, hE⟩ := bd2_some hE
  refine xc_V1 (rest := []) (c_X8_settled hc) mw_X8_settled km_X8_72 hx hb hml hown hG hI xA_of (wG_atE (by omega) eX_58) rfl rfl ⟨Nat.le_of_ble_eq_true rfl, Nat.le_of_ble_eq_true rfl⟩ rfl hl.1 rfl (Nat.le_of_ble_eq_true rfl) dX8_edits_23 (fun H locs hI => ?_)
  obtain ⟨rfl, rfl⟩ := sm2 hE
  exact xr_i hx hb hr hlk hG hI dX8_edits_26
def X8_deletes (u : Mem) (p1 : Int32) (p2 : Int32) : Option (Int32 × Mem) :=
  (X0_copyFrom u 1 0 : Option Mem).bind fun (mu1 : Mem) => bd2 (X0_delete mu1 0 p1 p2) fun (r2 : Int32) (mu3 : Mem) => bd2 (X8_settled mu3 r2) fun (r4 : Int32) (mu5 : Mem) => some (r4, mu5)
set_option maxHeartbeats 4000000 in
set_option maxRecDepth 100000 in
theorem c_X8_deletes {l : Launch} {D : va_G} {A : Nat → Nat} {cI cZ cD : ClassId} {u u1 : Mem} {p1 : Int32} {p2 : Int32} {r : Int32}  (hE : X8_deletes u p1 p2 = some (r, u1)) : Ct l yX8_deletes cX8_deletes 3 (some .int) (rmOf 5 115) D (tyL cI cZ cD) [.ref (A 58), .int p1, .int p2] (wX A cI cZ cD u) (some (.int r)) (wX A cI cZ cD u1) := by
  refine Ct.ofW (by decide +kernel) (fun p e s m below meth c hC hI => ?_)
  obtain ⟨hx, hb, hml, hown, hr, hlk, hG⟩ := hC
  have hown : s.vm.findClass RX8 = some m.cls := hown
  have hl := lv_entry ([.ref (A 58), .int p1, .int p2] : List Value) (n := 3) (Nat.le_of_ble_eq_true rfl)
  rw [lg_entry_eq]
  generalize (lg_sl ([.ref (A 58), .int p1, .int p2] : List Value) ++ List.replicate (3 - (lg_sl ([.ref (A 58), .int p1, .int p2] : List Value)).length) Slot.unset).toArray = ls at hl ⊢
  have hl : lv_has ls 3 [(0, .ref (A 58)), (1, .int p1), (2, .int p2)] := hl
  unfold X8_deletes at hE
  refine lv_aload_n hx hb dX8_deletes_0 rfl (lv_at hl 0 rfl) ?_
  refine xg_get (C := RX8) (T := TX8) (M := 10) hx hb hown hG hI (by omega) eX_58 rfl inX8 1 (by decide) kf_X8_16 rfl dX8_deletes_1 ?_
  refine lv_aload_n hx hb dX8_deletes_4 rfl (lv_at hl 0 rfl) ?_
  refine xg_get (C := RX8) (T := TX8) (M := 10) hx hb hown hG hI (by omega) eX_58 rfl inX8 0 (by decide) kf_X8_12 rfl dX8_deletes_5 ?_
  obtain ⟨mu1, hc, hE⟩ := bd1_some hE
  refine xc_V0 (rest := []) (c_X0_copyFrom (by omega) (by omega) hc) mw_X0_copyFrom km_X8_64 hx hb hml hown hG hI xA_of (wG_atE (by omega) (eX_D (d := 1) (by omega))) rfl rfl ⟨Nat.le_of_ble_eq_true rfl, Nat.le_of_ble_eq_true rfl⟩ rfl hl.1 rfl (Nat.le_of_ble_eq_true rfl) dX8_deletes_8 (fun H locs hI => ?_)
  refine lv_aload_n hx hb dX8_deletes_11 rfl (lv_at hl 0 rfl) ?_
  refine lv_aload_n hx hb dX8_deletes_12 rfl (lv_at hl 0 rfl) ?_
  refine xg_get (C := RX8) (T := TX8) (M := 10) hx hb hown hG hI (by omega) eX_58 rfl inX8 0 (by decide) kf_X8_12 rfl dX8_deletes_13 ?_
  refine lv_iload_n hx hb dX8_deletes_16 rfl (lv_at hl 1 rfl) ?_
  refine lv_iload_n hx hb dX8_deletes_17 rfl (lv_at hl 2 rfl) ?_
  obtain ⟨r2, mu3, hc, hE⟩ := bd2_some hE
  refine xc_V1 (rest := [.ref (A 58)]) (c_X0_delete (by omega) hc) mw_X0_delete km_X8_83 hx hb hml hown hG hI xA_of (wG_atE (by omega) (eX_D (d := 0) (by omega))) rfl rfl ⟨Nat.le_of_ble_eq_true rfl, Nat.le_of_ble_eq_true rfl⟩ rfl hl.1 rfl (Nat.le_of_ble_eq_true rfl) dX8_deletes_18 (fun H locs hI => ?_)
  obtain ⟨r4, mu5, hc, hE⟩ := bd2_some hE
  refine xc_V1 (rest := []) (c_X8_settled hc) mw_X8_settled km_X8_72 hx hb hml hown hG hI xA_of (wG_atE (by omega) eX_58) rfl rfl ⟨Nat.le_of_ble_eq_true rfl, Nat.le_of_ble_eq_true rfl⟩ rfl hl.1 rfl (Nat.le_of_ble_eq_true rfl) dX8_deletes_21 (fun H locs hI => ?_)
  obtain ⟨rfl, rfl⟩ := sm2 hE
  exact xr_i hx hb hr hlk hG hI dX8_deletes_24
def X8_forks (u : Mem) : Option (Int32 × Mem) :=
  (X0_copyFrom u 1 0 : Option Mem).bind fun (mu1 : Mem) => bd2 (X0_fork mu1 0) fun (r2 : Int32) (mu3 : Mem) => bd2 (X8_settled mu3 r2) fun (r4 : Int32) (mu5 : Mem) => some (r4, mu5)
set_option maxHeartbeats 4000000 in
set_option maxRecDepth 100000 in
theorem c_X8_forks {l : Launch} {D : va_G} {A : Nat → Nat} {cI cZ cD : ClassId} {u u1 : Mem} {r : Int32}  (hE : X8_forks u = some (r, u1)) : Ct l yX8_forks cX8_forks 1 (some .int) (rmOf 5 103) D (tyL cI cZ cD) [.ref (A 58)] (wX A cI cZ cD u) (some (.int r)) (wX A cI cZ cD u1) := by
  refine Ct.ofW (by decide +kernel) (fun p e s m below meth c hC hI => ?_)
  obtain ⟨hx, hb, hml, hown, hr, hlk, hG⟩ := hC
  have hown : s.vm.findClass RX8 = some m.cls := hown
  have hl := lv_entry ([.ref (A 58)] : List Value) (n := 1) (Nat.le_of_ble_eq_true rfl)
  rw [lg_entry_eq]
  generalize (lg_sl ([.ref (A 58)] : List Value) ++ List.replicate (1 - (lg_sl ([.ref (A 58)] : List Value)).length) Slot.unset).toArray = ls at hl ⊢
  have hl : lv_has ls 1 [(0, .ref (A 58))] := hl
  unfold X8_forks at hE
  refine lv_aload_n hx hb dX8_forks_0 rfl (lv_at hl 0 rfl) ?_
  refine xg_get (C := RX8) (T := TX8) (M := 10) hx hb hown hG hI (by omega) eX_58 rfl inX8 1 (by decide) kf_X8_16 rfl dX8_forks_1 ?_
  refine lv_aload_n hx hb dX8_forks_4 rfl (lv_at hl 0 rfl) ?_
  refine xg_get (C := RX8) (T := TX8) (M := 10) hx hb hown hG hI (by omega) eX_58 rfl inX8 0 (by decide) kf_X8_12 rfl dX8_forks_5 ?_
  obtain ⟨mu1, hc, hE⟩ := bd1_some hE
  refine xc_V0 (rest := []) (c_X0_copyFrom (by omega) (by omega) hc) mw_X0_copyFrom km_X8_64 hx hb hml hown hG hI xA_of (wG_atE (by omega) (eX_D (d := 1) (by omega))) rfl rfl ⟨Nat.le_of_ble_eq_true rfl, Nat.le_of_ble_eq_true rfl⟩ rfl hl.1 rfl (Nat.le_of_ble_eq_true rfl) dX8_forks_8 (fun H locs hI => ?_)
  refine lv_aload_n hx hb dX8_forks_11 rfl (lv_at hl 0 rfl) ?_
  refine lv_aload_n hx hb dX8_forks_12 rfl (lv_at hl 0 rfl) ?_
  refine xg_get (C := RX8) (T := TX8) (M := 10) hx hb hown hG hI (by omega) eX_58 rfl inX8 0 (by decide) kf_X8_12 rfl dX8_forks_13 ?_
  obtain ⟨r2, mu3, hc, hE⟩ := bd2_some hE
  refine xc_V1 (rest := [.ref (A 58)]) (c_X0_fork (by omega) hc) mw_X0_fork km_X8_87 hx hb hml hown hG hI xA_of (wG_atE (by omega) (eX_D (d := 0) (by omega))) rfl rfl ⟨Nat.le_of_ble_eq_true rfl, Nat.le_of_ble_eq_true rfl⟩ rfl hl.1 rfl (Nat.le_of_ble_eq_true rfl) dX8_forks_16 (fun H locs hI => ?_)
  obtain ⟨r4, mu5, hc, hE⟩ := bd2_some hE
  refine xc_V1 (rest := []) (c_X8_settled hc) mw_X8_settled km_X8_72 hx hb hml hown hG hI xA_of (wG_atE (by omega) eX_58) rfl rfl ⟨Nat.le_of_ble_eq_true rfl, Nat.le_of_ble_eq_true rfl⟩ rfl hl.1 rfl (Nat.le_of_ble_eq_true rfl) dX8_forks_19 (fun H locs hI => ?_)
  obtain ⟨rfl, rfl⟩ := sm2 hE
  exact xr_i hx hb hr hlk hG hI dX8_forks_22
def X8_prefers (u : Mem) (p1 : Int32) : Option (Int32 × Mem) :=
  (X0_copyFrom u 1 0 : Option Mem).bind fun (mu1 : Mem) => bd2 (X0_prefer mu1 0 p1) fun (r2 : Int32) (mu3 : Mem) => bd2 (X8_settled mu3 r2) fun (r4 : Int32) (mu5 : Mem) => some (r4, mu5)
set_option maxHeartbeats 4000000 in
set_option maxRecDepth 100000 in
theorem c_X8_prefers {l : Launch} {D : va_G} {A : Nat → Nat} {cI cZ cD : ClassId} {u u1 : Mem} {p1 : Int32} {r : Int32}  (hE : X8_prefers u p1 = some (r, u1)) : Ct l yX8_prefers cX8_prefers 2 (some .int) (rmOf 5 103) D (tyL cI cZ cD) [.ref (A 58), .int p1] (wX A cI cZ cD u) (some (.int r)) (wX A cI cZ cD u1) := by
  refine Ct.ofW (by decide +kernel) (fun p e s m below meth c hC hI => ?_)
  obtain ⟨hx, hb, hml, hown, hr, hlk, hG⟩ := hC
  have hown : s.vm.findClass RX8 = some m.cls := hown
  have hl := lv_entry ([.ref (A 58), .int p1] : List Value) (n := 2) (Nat.le_of_ble_eq_true rfl)
  rw [lg_entry_eq]
  generalize (lg_sl ([.ref (A 58), .int p1] : List Value) ++ List.replicate (2 - (lg_sl ([.ref (A 58), .int p1] : List Value)).length) Slot.unset).toArray = ls at hl ⊢
  have hl : lv_has ls 2 [(0, .ref (A 58)), (1, .int p1)] := hl
  unfold X8_prefers at hE
  refine lv_aload_n hx hb dX8_prefers_0 rfl (lv_at hl 0 rfl) ?_
  refine xg_get (C := RX8) (T := TX8) (M := 10) hx hb hown hG hI (by omega) eX_58 rfl inX8 1 (by decide) kf_X8_16 rfl dX8_prefers_1 ?_
  refine lv_aload_n hx hb dX8_prefers_4 rfl (lv_at hl 0 rfl) ?_
  refine xg_get (C := RX8) (T := TX8) (M := 10) hx hb hown hG hI (by omega) eX_58 rfl inX8 0 (by decide) kf_X8_12 rfl dX8_prefers_5 ?_
  obtain ⟨mu1, hc, hE⟩ := bd1_some hE
  refine xc_V0 (rest := []) (c_X0_copyFrom (by omega) (by omega) hc) mw_X0_copyFrom km_X8_64 hx hb hml hown hG hI xA_of (wG_atE (by omega) (eX_D (d := 1) (by omega))) rfl rfl ⟨Nat.le_of_ble_eq_true rfl, Nat.le_of_ble_eq_true rfl⟩ rfl hl.1 rfl (Nat.le_of_ble_eq_true rfl) dX8_prefers_8 (fun H locs hI => ?_)
  refine lv_aload_n hx hb dX8_prefers_11 rfl (lv_at hl 0 rfl) ?_
  refine lv_aload_n hx hb dX8_prefers_12 rfl (lv_at hl 0 rfl) ?_
  refine xg_get (C := RX8) (T := TX8) (M := 10) hx hb hown hG hI (by omega) eX_58 rfl inX8 0 (by decide) kf_X8_12 rfl dX8_prefers_13 ?_
  refine lv_iload_n hx hb dX8_prefers_16 rfl (lv_at hl 1 rfl) ?_
  obtain ⟨r2, mu3, hc, hE⟩ := bd2_some hE
  refine xc_V1 (rest := [.ref (A 58)]) (c_X0_prefer (by omega) hc) mw_X0_prefer km_X8_91 hx hb hml hown hG hI xA_of (wG_atE (by omega) (eX_D (d := 0) (by omega))) rfl rfl ⟨Nat.le_of_ble_eq_true rfl, Nat.le_of_ble_eq_true rfl⟩ rfl hl.1 rfl (Nat.le_of_ble_eq_true rfl) dX8_prefers_17 (fun H locs hI => ?_)
  obtain ⟨r4, mu5, hc, hE⟩ := bd2_some hE
  refine xc_V1 (rest := []) (c_X8_settled hc) mw_X8_settled km_X8_72 hx hb hml hown hG hI xA_of (wG_atE (by omega) eX_58) rfl rfl ⟨Nat.le_of_ble_eq_true rfl, Nat.le_of_ble_eq_true rfl⟩ rfl hl.1 rfl (Nat.le_of_ble_eq_true rfl) dX8_prefers_20 (fun H locs hI => ?_)
  obtain ⟨rfl, rfl⟩ := sm2 hE
  exact xr_i hx hb hr hlk hG hI dX8_prefers_23
def X8_outline (u : Mem) (p1 : Int32) : Option (Nat × Mem) :=
  (if p1 = 3 then (X3_refresh u 0 : Option Mem).bind fun (mu1 : Mem) => some (24, mu1) else (X0_outline u 0 p1 : Option Nat).bind fun (r2 : Nat) => some (r2, u))
set_option maxHeartbeats 4000000 in
set_option maxRecDepth 100000 in
theorem c_X8_outline {l : Launch} {D : va_G} {A : Nat → Nat} {cI cZ cD : ClassId} {u u1 : Mem} {p1 : Int32} {r : Nat}  (hE : X8_outline u p1 = some (r, u1)) : Ct l yX8_outline cX8_outline 2 (some (.object "MergedOutline$Outline")) (rmOf 5 116) D (tyL cI cZ cD) [.ref (A 58), .int p1] (wX A cI cZ cD u) (some (.ref (A r))) (wX A cI cZ cD u1) := by
  refine Ct.ofW (by decide +kernel) (fun p e s m below meth c hC hI => ?_)
  obtain ⟨hx, hb, hml, hown, hr, hlk, hG⟩ := hC
  have hown : s.vm.findClass RX8 = some m.cls := hown
  have hl := lv_entry ([.ref (A 58), .int p1] : List Value) (n := 2) (Nat.le_of_ble_eq_true rfl)
  rw [lg_entry_eq]
  generalize (lg_sl ([.ref (A 58), .int p1] : List Value) ++ List.replicate (2 - (lg_sl ([.ref (A 58), .int p1] : List Value)).length) Slot.unset).toArray = ls at hl ⊢
  have hl : lv_has ls 2 [(0, .ref (A 58)), (1, .int p1)] := hl
  unfold X8_outline at hE
  refine lv_iload_n hx hb dX8_outline_0 rfl (lv_at hl 1 rfl) ?_
  refine lv_iconst (v := 3) hx hb dX8_outline_1 (by decide) ?_
  refine lv_icmp_eq (tgt := 14) hx hb dX8_outline_2 (by decide) (fun c2 => ?_) (fun c2 => ?_)
  · rw [if_pos c2] at hE
    refine lv_aload_n hx hb dX8_outline_14 rfl (lv_at hl 0 rfl) ?_
    refine xg_get (C := RX8) (T := TX8) (M := 10) hx hb hown hG hI (by omega) eX_58 rfl inX8 3 (by decide) kf_X8_29 rfl dX8_outline_15 ?_
    refine lv_aload_n hx hb dX8_outline_18 rfl (lv_at hl 0 rfl) ?_
    refine xg_get (C := RX8) (T := TX8) (M := 10) hx hb hown hG hI (by omega) eX_58 rfl inX8 0 (by decide) kf_X8_12 rfl dX8_outline_19 ?_
    obtain ⟨mu1, hc, hE⟩ := bd1_some hE
    refine xc_V0 (rest := []) (c_X3_refresh (by omega) hc) mw_X3_refresh km_X8_142 hx hb hml hown hG hI xA_of (wG_atE (by omega) eX_61) rfl rfl ⟨Nat.le_of_ble_eq_true rfl, Nat.le_of_ble_eq_true rfl⟩ rfl hl.1 rfl (Nat.le_of_ble_eq_true rfl) dX8_outline_22 (fun H locs hI => ?_)
    refine lv_aload_n hx hb dX8_outline_25 rfl (lv_at hl 0 rfl) ?_
    refine xg_get (C := RX8) (T := TX8) (M := 10) hx hb hown hG hI (by omega) eX_58 rfl inX8 3 (by decide) kf_X8_29 rfl dX8_outline_26 ?_
    refine xg_getN (C := RX3) (T := TX3) (M := 6) hx hb hown hG hI (by omega) eX_61 rfl inX3 1 (by decide) kf_X8_222 rfl dX8_outline_29 ?_
    obtain ⟨rfl, rfl⟩ := sm2 hE
    exact xr_a hx hb hr hlk (Or.inr ⟨_, rfl⟩) hG hI dX8_outline_32
  · rw [if_neg c2] at hE
    refine lv_aload_n hx hb dX8_outline_5 rfl (lv_at hl 0 rfl) ?_
    refine xg_get (C := RX8) (T := TX8) (M := 10) hx hb hown hG hI (by omega) eX_58 rfl inX8 0 (by decide) kf_X8_12 rfl dX8_outline_6 ?_
    refine lv_iload_n hx hb dX8_outline_9 rfl (lv_at hl 1 rfl) ?_
    obtain ⟨r2, hc, hE⟩ := bd1_some hE
    refine xc_V1 (rest := []) (c_X0_outline (by omega) hc) mw_X0_outline km_X8_157 hx hb hml hown hG hI xA_of (wG_atE (by omega) (eX_D (d := 0) (by omega))) rfl rfl ⟨Nat.le_of_ble_eq_true rfl, Nat.le_of_ble_eq_true rfl⟩ rfl hl.1 rfl (Nat.le_of_ble_eq_true rfl) dX8_outline_10 (fun H locs hI => ?_)
    have hr2 : r2 < 25 := lt_X0_outline (by omega) hc
    obtain ⟨rfl, rfl⟩ := sm2 hE
    exact xr_a hx hb hr hlk (Or.inr ⟨_, rfl⟩) hG hI dX8_outline_13
theorem lt_X8_outline {u u1 : Mem} {p1 : Int32} {r : Nat} (h : X8_outline u p1 = some (r, u1)) : r < 25 := by
  unfold X8_outline at h
  split at h
  · obtain ⟨a, b, h⟩ := bd1_some h
    cases h; omega
  · obtain ⟨a, ha, h⟩ := bd1_some h
    have h1 := lt_X0_outline (by omega) ha
    cases h; omega
def X8_adopts (u : Mem) : Option (Int32 × Mem) :=
  (X0_copyFrom u 1 0 : Option Mem).bind fun (mu1 : Mem) => bd2 (X8_outline mu1 3) fun (r2 : Nat) (mu3 : Mem) => bd2 (X0_adopt mu3 0 r2) fun (r4 : Int32) (mu5 : Mem) => bd2 (X8_settled mu5 r4) fun (r6 : Int32) (mu7 : Mem) => some (r6, mu7)
set_option maxHeartbeats 4000000 in
set_option maxRecDepth 100000 in
theorem c_X8_adopts {l : Launch} {D : va_G} {A : Nat → Nat} {cI cZ cD : ClassId} {u u1 : Mem} {r : Int32}  (hE : X8_adopts u = some (r, u1)) : Ct l yX8_adopts cX8_adopts 1 (some .int) (rmOf 6 137) D (tyL cI cZ cD) [.ref (A 58)] (wX A cI cZ cD u) (some (.int r)) (wX A cI cZ cD u1) := by
  refine Ct.ofW (by decide +kernel) (fun p e s m below meth c hC hI => ?_)
  obtain ⟨hx, hb, hml, hown, hr, hlk, hG⟩ := hC
  have hown : s.vm.findClass RX8 = some m.cls := hown
  have hl := lv_entry ([.ref (A 58)] : List Value) (n := 1) (Nat.le_of_ble_eq_true rfl)
  rw [lg_entry_eq]
  generalize (lg_sl ([.ref (A 58)] : List Value) ++ List.replicate (1 - (lg_sl ([.ref (A 58)] : List Value)).length) Slot.unset).toArray = ls at hl ⊢
  have hl : lv_has ls 1 [(0, .ref (A 58))] := hl
  unfold X8_adopts at hE
  refine lv_aload_n hx hb dX8_adopts_0 rfl (lv_at hl 0 rfl) ?_
  refine xg_get (C := RX8) (T := TX8) (M := 10) hx hb hown hG hI (by omega) eX_58 rfl inX8 1 (by decide) kf_X8_16 rfl dX8_adopts_1 ?_
  refine lv_aload_n hx hb dX8_adopts_4 rfl (lv_at hl 0 rfl) ?_
  refine xg_get (C := RX8) (T := TX8) (M := 10) hx hb hown hG hI (by omega) eX_58 rfl inX8 0 (by decide) kf_X8_12 rfl dX8_adopts_5 ?_
  obtain ⟨mu1, hc, hE⟩ := bd1_some hE
  refine xc_V0 (rest := []) (c_X0_copyFrom (by omega) (by omega) hc) mw_X0_copyFrom km_X8_64 hx hb hml hown hG hI xA_of (wG_atE (by omega) (eX_D (d := 1) (by omega))) rfl rfl ⟨Nat.le_of_ble_eq_true rfl, Nat.le_of_ble_eq_true rfl⟩ rfl hl.1 rfl (Nat.le_of_ble_eq_true rfl) dX8_adopts_8 (fun H locs hI => ?_)
  refine lv_aload_n hx hb dX8_adopts_11 rfl (lv_at hl 0 rfl) ?_
  refine lv_aload_n hx hb dX8_adopts_12 rfl (lv_at hl 0 rfl) ?_
  refine xg_get (C := RX8) (T := TX8) (M := 10) hx hb hown hG hI (by omega) eX_58 rfl inX8 0 (by decide) kf_X8_12 rfl dX8_adopts_13 ?_
  refine lv_aload_n hx hb dX8_adopts_16 rfl (lv_at hl 0 rfl) ?_
  refine lv_iconst (v := 3) hx hb dX8_adopts_17 (by decide) ?_
  obtain ⟨r2, mu3, hc, hE⟩ := bd2_some hE
  refine xc_V1 (rest := [.ref (A 50), .ref (A 58)]) (c_X8_outline hc) mw_X8_outline km_X8_94 hx hb hml hown hG hI xA_of (wG_atE (by omega) eX_58) rfl rfl ⟨Nat.le_of_ble_eq_true rfl, Nat.le_of_ble_eq_true rfl⟩ rfl hl.1 rfl (Nat.le_of_ble_eq_true rfl) dX8_adopts_18 (fun H locs hI => ?_)
  have hr2 : r2 < 25 := lt_X8_outline hc
  obtain ⟨r4, mu5, hc, hE⟩ := bd2_some hE
  refine xc_V1 (rest := [.ref (A 58)]) (c_X0_adopt (by omega) (by omega) hc) mw_X0_adopt km_X8_98 hx hb hml hown hG hI xA_of (wG_atE (by omega) (eX_D (d := 0) (by omega))) rfl rfl ⟨Nat.le_of_ble_eq_true rfl, Nat.le_of_ble_eq_true rfl⟩ rfl hl.1 rfl (Nat.le_of_ble_eq_true rfl) dX8_adopts_21 (fun H locs hI => ?_)
  obtain ⟨r6, mu7, hc, hE⟩ := bd2_some hE
  refine xc_V1 (rest := []) (c_X8_settled hc) mw_X8_settled km_X8_72 hx hb hml hown hG hI xA_of (wG_atE (by omega) eX_58) rfl rfl ⟨Nat.le_of_ble_eq_true rfl, Nat.le_of_ble_eq_true rfl⟩ rfl hl.1 rfl (Nat.le_of_ble_eq_true rfl) dX8_adopts_24 (fun H locs hI => ?_)
  obtain ⟨rfl, rfl⟩ := sm2 hE
  exact xr_i hx hb hr hlk hG hI dX8_adopts_27
def X8_has (u : Mem) (p1 : Int32) (p2 : Int32) : Option (Int32 × Mem) :=
  (X8_isAnyOutline p1 : Option Bool).bind fun (r1 : Bool) => (if (b2i r1) = 0 then bd2 (X8_refuse u (-2)) fun (r2 : Int32) (mu3 : Mem) => some (r2, mu3) else (X8_isNumber p2 : Option Bool).bind fun (r4 : Bool) => (if (b2i r4) = 0 then bd2 (X8_refuse u (-2)) fun (r8 : Int32) (mu9 : Mem) => some (r8, mu9) else bd2 (X8_outline u p1) fun (r5 : Nat) (mu6 : Mem) => (X4_holds (mu6 (25 + r5)) p2 : Option Bool).bind fun (r7 : Bool) => (if (b2i r7) = 0 then some (0, mu6) else some (1, mu6))))
set_option maxHeartbeats 4000000 in
set_option maxRecDepth 100000 in
theorem c_X8_has {l : Launch} {D : va_G} {A : Nat → Nat} {cI cZ cD : ClassId} {u u1 : Mem} {p1 : Int32} {p2 : Int32} {r : Int32}  (hE : X8_has u p1 p2 = some (r, u1)) : Ct l yX8_has cX8_has 3 (some .int) (rmOf 6 137) D (tyL cI cZ cD) [.ref (A 58), .int p1, .int p2] (wX A cI cZ cD u) (some (.int r)) (wX A cI cZ cD u1) := by
  refine Ct.ofW (by decide +kernel) (fun p e s m below meth c hC hI => ?_)
  obtain ⟨hx, hb, hml, hown, hr, hlk, hG⟩ := hC
  have hown : s.vm.findClass RX8 = some m.cls := hown
  have hl := lv_entry ([.ref (A 58), .int p1, .int p2] : List Value) (n := 3) (Nat.le_of_ble_eq_true rfl)
  rw [lg_entry_eq]
  generalize (lg_sl ([.ref (A 58), .int p1, .int p2] : List Value) ++ List.replicate (3 - (lg_sl ([.ref (A 58), .int p1, .int p2] : List Value)).length) Slot.unset).toArray = ls at hl ⊢
  have hl : lv_has ls 3 [(0, .ref (A 58)), (1, .int p1), (2, .int p2)] := hl
  unfold X8_has at hE
  refine lv_iload_n hx hb dX8_has_0 rfl (lv_at hl 1 rfl) ?_
  obtain ⟨r1, hc, hE⟩ := bd1_some hE
  refine xc_S1 (rest := []) (c_X8_isAnyOutline hc) mw_X8_isAnyOutline km_X8_102 hx hb hml hown hG hI xA_of ⟨Nat.le_of_ble_eq_true rfl, Nat.le_of_ble_eq_true rfl⟩ rfl hl.1 rfl (Nat.le_of_ble_eq_true rfl) dX8_has_1 (fun H locs hI => ?_)
  refine lv_if_eq (tgt := 14) hx hb dX8_has_4 (by decide) (fun c4 => ?_) (fun c4 => ?_)
  · rw [if_pos c4] at hE
    refine lv_aload_n hx hb dX8_has_14 rfl (lv_at hl 0 rfl) ?_
    refine lv_bipush (v := (-2)) hx hb dX8_has_15 (by decide) ?_
    obtain ⟨r2, mu3, hc, hE⟩ := bd2_some hE
    refine xc_V1 (rest := []) (c_X8_refuse hc) mw_X8_refuse km_X8_109 hx hb hml hown hG hI xA_of (wG_atE (by omega) eX_58) rfl rfl ⟨Nat.le_of_ble_eq_true rfl, Nat.le_of_ble_eq_true rfl⟩ rfl hl.1 rfl (Nat.le_of_ble_eq_true rfl) dX8_has_17 (fun H locs hI => ?_)
    obtain ⟨rfl, rfl⟩ := sm2 hE
    exact xr_i hx hb hr hlk hG hI dX8_has_20
  · rw [if_neg c4] at hE
    refine lv_iload_n hx hb dX8_has_7 rfl (lv_at hl 2 rfl) ?_
    obtain ⟨r4, hc, hE⟩ := bd1_some hE
    refine xc_S1 (rest := []) (c_X8_isNumber hc) mw_X8_isNumber km_X8_106 hx hb hml hown hG hI xA_of ⟨Nat.le_of_ble_eq_true rfl, Nat.le_of_ble_eq_true rfl⟩ rfl hl.1 rfl (Nat.le_of_ble_eq_true rfl) dX8_has_8 (fun H locs hI => ?_)
    refine lv_if_ne (tgt := 21) hx hb dX8_has_11 (by decide) (fun c11 => ?_) (fun c11 => ?_)
    · rw [if_neg c11] at hE
      refine lv_aload_n hx hb dX8_has_21 rfl (lv_at hl 0 rfl) ?_
      refine lv_iload_n hx hb dX8_has_22 rfl (lv_at hl 1 rfl) ?_
      obtain ⟨r5, mu6, hc, hE⟩ := bd2_some hE
      refine xc_V1 (rest := []) (c_X8_outline hc) mw_X8_outline km_X8_94 hx hb hml hown hG hI xA_of (wG_atE (by omega) eX_58) rfl rfl ⟨Nat.le_of_ble_eq_true rfl, Nat.le_of_ble_eq_true rfl⟩ rfl hl.1 rfl (Nat.le_of_ble_eq_true rfl) dX8_has_23 (fun H locs hI => ?_)
      have hr5 : r5 < 25 := lt_X8_outline hc
      refine lv_iload_n hx hb dX8_has_26 rfl (lv_at hl 2 rfl) ?_
      obtain ⟨r7, hc, hE⟩ := bd1_some hE
      refine xc_V1 (rest := []) (Ct.toXr (j := r5) (by omega) (c_X4_holds (OKX (j := r5) (by omega)) hc)) mw_X4_holds km_X8_112 hx hb hml hown hG hI xA_of (wG_atE (by omega) (eX_O (j := r5) (by omega))) rfl rfl ⟨Nat.le_of_ble_eq_true rfl, Nat.le_of_ble_eq_true rfl⟩ rfl hl.1 rfl (Nat.le_of_ble_eq_true rfl) dX8_has_27 (fun H locs hI => ?_)
      refine lv_if_eq (tgt := 37) hx hb dX8_has_30 (by decide) (fun c30 => ?_) (fun c30 => ?_)
      · rw [if_pos c30] at hE
        refine lv_iconst (v := 0) hx hb dX8_has_37 (by decide) ?_
        obtain ⟨rfl, rfl⟩ := sm2 hE
        exact xr_i hx hb hr hlk hG hI dX8_has_38
      · rw [if_neg c30] at hE
        refine lv_iconst (v := 1) hx hb dX8_has_33 (by decide) ?_
        refine lv_goto (tgt := 38) hx hb dX8_has_34 (by decide) ?_
        obtain ⟨rfl, rfl⟩ := sm2 hE
        exact xr_i hx hb hr hlk hG hI dX8_has_38
    · rw [if_pos c11] at hE
      refine lv_aload_n hx hb dX8_has_14 rfl (lv_at hl 0 rfl) ?_
      refine lv_bipush (v := (-2)) hx hb dX8_has_15 (by decide) ?_
      obtain ⟨r8, mu9, hc, hE⟩ := bd2_some hE
      refine xc_V1 (rest := []) (c_X8_refuse hc) mw_X8_refuse km_X8_109 hx hb hml hown hG hI xA_of (wG_atE (by omega) eX_58) rfl rfl ⟨Nat.le_of_ble_eq_true rfl, Nat.le_of_ble_eq_true rfl⟩ rfl hl.1 rfl (Nat.le_of_ble_eq_true rfl) dX8_has_17 (fun H locs hI => ?_)
      obtain ⟨rfl, rfl⟩ := sm2 hE
      exact xr_i hx hb hr hlk hG hI dX8_has_20
def X8_of (u : Mem) (p1 : Int32) (p2 : Int32) (p3 : Int32) : Option (Int32 × Mem) :=
  (X8_isAnyOutline p1 : Option Bool).bind fun (r1 : Bool) => (if (b2i r1) = 0 then bd2 (X8_refuse u (-2)) fun (r2 : Int32) (mu3 : Mem) => some (r2, mu3) else (if p3 < 0 then bd2 (X8_refuse u (-2)) fun (r4 : Int32) (mu5 : Mem) => some (r4, mu5) else (if p3 ≤ 5 then bd2 (X8_outline u p1) fun (r6 : Nat) (mu7 : Mem) => (X4_holds (mu7 (25 + r6)) p2 : Option Bool).bind fun (r8 : Bool) => (if (b2i r8) = 0 then bd2 (X8_refuse mu7 (-2)) fun (r12 : Int32) (mu13 : Mem) => some (r12, mu13) else (if p3 = 4 then (X4_childCount (mu7 (25 + r6)) p2 : Option Int32).bind fun (r11 : Int32) => some (r11, mu7) else (if p3 = 5 then (X4_countBelow (mu7 (25 + r6)) p2 : Option Int32).bind fun (r10 : Int32) => some (r10, mu7) else (X4_trait (mu7 (25 + r6)) p2 p3 : Option Int32).bind fun (r9 : Int32) => some (r9, mu7)))) else bd2 (X8_refuse u (-2)) fun (r14 : Int32) (mu15 : Mem) => some (r14, mu15))))
set_option maxHeartbeats 4000000 in
set_option maxRecDepth 100000 in
theorem c_X8_of {l : Launch} {D : va_G} {A : Nat → Nat} {cI cZ cD : ClassId} {u u1 : Mem} {p1 : Int32} {p2 : Int32} {p3 : Int32} {r : Int32}  (hE : X8_of u p1 p2 p3 = some (r, u1)) : Ct l yX8_of cX8_of 5 (some .int) (rmOf 6 137) D (tyL cI cZ cD) [.ref (A 58), .int p1, .int p2, .int p3] (wX A cI cZ cD u) (some (.int r)) (wX A cI cZ cD u1) := by
  refine Ct.ofW (by decide +kernel) (fun p e s m below meth c hC hI => ?_)
  obtain ⟨hx, hb, hml, hown, hr, hlk, hG⟩ := hC
  have hown : s.vm.findClass RX8 = some m.cls := hown
  have hl := lv_entry ([.ref (A 58), .int p1, .int p2, .int p3] : List Value) (n := 5) (Nat.le_of_ble_eq_true rfl)
  rw [lg_entry_eq]
  generalize (lg_sl ([.ref (A 58), .int p1, .int p2, .int p3] : List Value) ++ List.replicate (5 - (lg_sl ([.ref (A 58), .int p1, .int p2, .int p3] : List Value)).length) Slot.unset).toArray = ls at hl ⊢
  have hl : lv_has ls 5 [(0, .ref (A 58)), (1, .int p1), (2, .int p2), (3, .int p3)] := hl
  unfold X8_of at hE
  refine lv_iload_n hx hb dX8_of_0 rfl (lv_at hl 1 rfl) ?_
  obtain ⟨r1, hc, hE⟩ := bd1_some hE
  refine xc_S1 (rest := []) (c_X8_isAnyOutline hc) mw_X8_isAnyOutline km_X8_102 hx hb hml hown hG hI xA_of ⟨Nat.le_of_ble_eq_true rfl, Nat.le_of_ble_eq_true rfl⟩ rfl hl.1 rfl (Nat.le_of_ble_eq_true rfl) dX8_of_1 (fun H locs hI => ?_)
  refine lv_if_eq (tgt := 16) hx hb dX8_of_4 (by decide) (fun c4 => ?_) (fun c4 => ?_)
  · rw [if_pos c4] at hE
    refine lv_aload_n hx hb dX8_of_16 rfl (lv_at hl 0 rfl) ?_
    refine lv_bipush (v := (-2)) hx hb dX8_of_17 (by decide) ?_
    obtain ⟨r2, mu3, hc, hE⟩ := bd2_some hE
    refine xc_V1 (rest := []) (c_X8_refuse hc) mw_X8_refuse km_X8_109 hx hb hml hown hG hI xA_of (wG_atE (by omega) eX_58) rfl rfl ⟨Nat.le_of_ble_eq_true rfl, Nat.le_of_ble_eq_true rfl⟩ rfl hl.1 rfl (Nat.le_of_ble_eq_true rfl) dX8_of_19 (fun H locs hI => ?_)
    obtain ⟨rfl, rfl⟩ := sm2 hE
    exact xr_i hx hb hr hlk hG hI dX8_of_22
  · rw [if_neg c4] at hE
    refine lv_iload_n hx hb dX8_of_7 rfl (lv_at hl 3 rfl) ?_
    refine lv_if_lt (tgt := 16) hx hb dX8_of_8 (by decide) (fun c8 => ?_) (fun c8 => ?_)
    · rw [if_pos c8] at hE
      refine lv_aload_n hx hb dX8_of_16 rfl (lv_at hl 0 rfl) ?_
      refine lv_bipush (v := (-2)) hx hb dX8_of_17 (by decide) ?_
      obtain ⟨r4, mu5, hc, hE⟩ := bd2_some hE
      refine xc_V1 (rest := []) (c_X8_refuse hc) mw_X8_refuse km_X8_109 hx hb hml hown hG hI xA_of (wG_atE (by omega) eX_58) rfl rfl ⟨Nat.le_of_ble_eq_true rfl, Nat.le_of_ble_eq_true rfl⟩ rfl hl.1 rfl (Nat.le_of_ble_eq_true rfl) dX8_of_19 (fun H locs hI => ?_)
      obtain ⟨rfl, rfl⟩ := sm2 hE
      exact xr_i hx hb hr hlk hG hI dX8_of_22
    · rw [if_neg c8] at hE
      refine lv_iload_n hx hb dX8_of_11 rfl (lv_at hl 3 rfl) ?_
      refine lv_iconst (v := 5) hx hb dX8_of_12 (by decide) ?_
      refine lv_icmp_le (tgt := 23) hx hb dX8_of_13 (by decide) (fun c13 => ?_) (fun c13 => ?_)
      · rw [if_pos c13] at hE
        refine lv_aload_n hx hb dX8_of_23 rfl (lv_at hl 0 rfl) ?_
        refine lv_iload_n hx hb dX8_of_24 rfl (lv_at hl 1 rfl) ?_
        obtain ⟨r6, mu7, hc, hE⟩ := bd2_some hE
        refine xc_V1 (rest := []) (c_X8_outline hc) mw_X8_outline km_X8_94 hx hb hml hown hG hI xA_of (wG_atE (by omega) eX_58) rfl rfl ⟨Nat.le_of_ble_eq_true rfl, Nat.le_of_ble_eq_true rfl⟩ rfl hl.1 rfl (Nat.le_of_ble_eq_true rfl) dX8_of_25 (fun H locs hI => ?_)
        have hr6 : r6 < 25 := lt_X8_outline hc
        refine lv_astore (lv' := [(4, .ref (A r6)), (0, .ref (A 58)), (1, .int p1), (2, .int p2), (3, .int p3)]) hx hb dX8_of_28 hl (by decide) rfl (fun ls hl => ?_)
        refine lv_aload hx hb dX8_of_30 (lv_at hl 0 rfl) ?_
        refine lv_iload_n hx hb dX8_of_32 rfl (lv_at hl 3 rfl) ?_
        obtain ⟨r8, hc, hE⟩ := bd1_some hE
        refine xc_V1 (rest := []) (Ct.toXr (j := r6) (by omega) (c_X4_holds (OKX (j := r6) (by omega)) hc)) mw_X4_holds km_X8_112 hx hb hml hown hG hI xA_of (wG_atE (by omega) (eX_O (j := r6) (by omega))) rfl rfl ⟨Nat.le_of_ble_eq_true rfl, Nat.le_of_ble_eq_true rfl⟩ rfl hl.1 rfl (Nat.le_of_ble_eq_true rfl) dX8_of_33 (fun H locs hI => ?_)
        refine lv_if_ne (tgt := 46) hx hb dX8_of_36 (by decide) (fun c36 => ?_) (fun c36 => ?_)
        · rw [if_neg c36] at hE
          refine lv_iload_n hx hb dX8_of_46 rfl (lv_at hl 4 rfl) ?_
          refine lv_iconst (v := 4) hx hb dX8_of_47 (by decide) ?_
          refine lv_icmp_ne (tgt := 58) hx hb dX8_of_48 (by decide) (fun c48 => ?_) (fun c48 => ?_)
          · rw [if_neg c48] at hE
            refine lv_iload_n hx hb dX8_of_58 rfl (lv_at hl 4 rfl) ?_
            refine lv_iconst (v := 5) hx hb dX8_of_59 (by decide) ?_
            refine lv_icmp_ne (tgt := 72) hx hb dX8_of_60 (by decide) (fun c60 => ?_) (fun c60 => ?_)
            · rw [if_neg c60] at hE
              refine lv_aload hx hb dX8_of_72 (lv_at hl 0 rfl) ?_
              refine lv_iload_n hx hb dX8_of_74 rfl (lv_at hl 3 rfl) ?_
              refine lv_iload_n hx hb dX8_of_75 rfl (lv_at hl 4 rfl) ?_
              obtain ⟨r9, hc, hE⟩ := bd1_some hE
              refine xc_V1 (rest := []) (Ct.toXr (j := r6) (by omega) (c_X4_trait (OKX (j := r6) (by omega)) hc)) mw_X4_trait km_X8_123 hx hb hml hown hG hI xA_of (wG_atE (by omega) (eX_O (j := r6) (by omega))) rfl rfl ⟨Nat.le_of_ble_eq_true rfl, Nat.le_of_ble_eq_true rfl⟩ rfl hl.1 rfl (Nat.le_of_ble_eq_true rfl) dX8_of_76 (fun H locs hI => ?_)
              obtain ⟨rfl, rfl⟩ := sm2 hE
              exact xr_i hx hb hr hlk hG hI dX8_of_79
            · rw [if_pos c60] at hE
              refine lv_aload hx hb dX8_of_63 (lv_at hl 0 rfl) ?_
              refine lv_iload_n hx hb dX8_of_65 rfl (lv_at hl 3 rfl) ?_
              obtain ⟨r10, hc, hE⟩ := bd1_some hE
              refine xc_V1 (rest := []) (Ct.toXr (j := r6) (by omega) (c_X4_countBelow (OKX (j := r6) (by omega)) hc)) mw_X4_countBelow km_X8_120 hx hb hml hown hG hI xA_of (wG_atE (by omega) (eX_O (j := r6) (by omega))) rfl rfl ⟨Nat.le_of_ble_eq_true rfl, Nat.le_of_ble_eq_true rfl⟩ rfl hl.1 rfl (Nat.le_of_ble_eq_true rfl) dX8_of_66 (fun H locs hI => ?_)
              refine lv_goto (tgt := 79) hx hb dX8_of_69 (by decide) ?_
              obtain ⟨rfl, rfl⟩ := sm2 hE
              exact xr_i hx hb hr hlk hG hI dX8_of_79
          · rw [if_pos c48] at hE
            refine lv_aload hx hb dX8_of_51 (lv_at hl 0 rfl) ?_
            refine lv_iload_n hx hb dX8_of_53 rfl (lv_at hl 3 rfl) ?_
            obtain ⟨r11, hc, hE⟩ := bd1_some hE
            refine xc_V1 (rest := []) (Ct.toXr (j := r6) (by omega) (c_X4_childCount (OKX (j := r6) (by omega)) hc)) mw_X4_childCount km_X8_117 hx hb hml hown hG hI xA_of (wG_atE (by omega) (eX_O (j := r6) (by omega))) rfl rfl ⟨Nat.le_of_ble_eq_true rfl, Nat.le_of_ble_eq_true rfl⟩ rfl hl.1 rfl (Nat.le_of_ble_eq_true rfl) dX8_of_54 (fun H locs hI => ?_)
            obtain ⟨rfl, rfl⟩ := sm2 hE
            exact xr_i hx hb hr hlk hG hI dX8_of_57
        · rw [if_pos c36] at hE
          refine lv_aload_n hx hb dX8_of_39 rfl (lv_at hl 1 rfl) ?_
          refine lv_bipush (v := (-2)) hx hb dX8_of_40 (by decide) ?_
          obtain ⟨r12, mu13, hc, hE⟩ := bd2_some hE
          refine xc_V1 (rest := []) (c_X8_refuse hc) mw_X8_refuse km_X8_109 hx hb hml hown hG hI xA_of (wG_atE (by omega) eX_58) rfl rfl ⟨Nat.le_of_ble_eq_true rfl, Nat.le_of_ble_eq_true rfl⟩ rfl hl.1 rfl (Nat.le_of_ble_eq_true rfl) dX8_of_42 (fun H locs hI => ?_)
          obtain ⟨rfl, rfl⟩ := sm2 hE
          exact xr_i hx hb hr hlk hG hI dX8_of_45
      · rw [if_neg c13] at hE
        refine lv_aload_n hx hb dX8_of_16 rfl (lv_at hl 0 rfl) ?_
        refine lv_bipush (v := (-2)) hx hb dX8_of_17 (by decide) ?_
        obtain ⟨r14, mu15, hc, hE⟩ := bd2_some hE
        refine xc_V1 (rest := []) (c_X8_refuse hc) mw_X8_refuse km_X8_109 hx hb hml hown hG hI xA_of (wG_atE (by omega) eX_58) rfl rfl ⟨Nat.le_of_ble_eq_true rfl, Nat.le_of_ble_eq_true rfl⟩ rfl hl.1 rfl (Nat.le_of_ble_eq_true rfl) dX8_of_19 (fun H locs hI => ?_)
        obtain ⟨rfl, rfl⟩ := sm2 hE
        exact xr_i hx hb hr hlk hG hI dX8_of_22
def X8_walk_L40 (p2 : Int32) (r4 : Nat) (mu5 : Mem) : Nat → Int32 → Int32 → Option (Int32)
  | 0, _, _ => none
  | n40 + 1, x8, x9 =>
    (if p2 ≤ x9 then some x8 else (if 16 ≤ x9 then some x8 else (X4_following (mu5 (25 + r4)) x8 : Option Int32).bind fun (r12 : Int32) => X8_walk_L40 p2 r4 mu5 n40 r12 (x9 + 1)))
def X8_walk (u : Mem) (p1 : Int32) (p2 : Int32) : Option (Int32 × Mem) :=
  (X8_isAnyOutline p1 : Option Bool).bind fun (r1 : Bool) => (if (b2i r1) = 0 then bd2 (X8_refuse u (-2)) fun (r2 : Int32) (mu3 : Mem) => some (r2, mu3) else (if 0 ≤ p2 then bd2 (X8_outline u p1) fun (r4 : Nat) (mu5 : Mem) => ((if 16 ≤ p2 then some (-1) else some 0) : Option Int32).bind fun (x6 : Int32) => (X8_walk_L40 p2 r4 mu5 fu x6 0 : Option Int32).bind fun (x10 : Int32) => some (x10, mu5) else bd2 (X8_refuse u (-2)) fun (r13 : Int32) (mu14 : Mem) => some (r13, mu14)))
set_option maxHeartbeats 4000000 in
set_option maxRecDepth 100000 in
theorem c_X8_walk {l : Launch} {D : va_G} {A : Nat → Nat} {cI cZ cD : ClassId} {u u1 : Mem} {p1 : Int32} {p2 : Int32} {r : Int32}  (hE : X8_walk u p1 p2 = some (r, u1)) : Ct l yX8_walk cX8_walk 6 (some .int) (rmOf 6 137) D (tyL cI cZ cD) [.ref (A 58), .int p1, .int p2] (wX A cI cZ cD u) (some (.int r)) (wX A cI cZ cD u1) := by
  refine Ct.ofW (by decide +kernel) (fun p e s m below meth c hC hI => ?_)
  obtain ⟨hx, hb, hml, hown, hr, hlk, hG⟩ := hC
  have hown : s.vm.findClass RX8 = some m.cls := hown
  have hl := lv_entry ([.ref (A 58), .int p1, .int p2] : List Value) (n := 6) (Nat.le_of_ble_eq_true rfl)
  rw [lg_entry_eq]
  generalize (lg_sl ([.ref (A 58), .int p1, .int p2] : List Value) ++ List.replicate (6 - (lg_sl ([.ref (A 58), .int p1, .int p2] : List Value)).length) Slot.unset).toArray = ls at hl ⊢
  have hl : lv_has ls 6 [(0, .ref (A 58)), (1, .int p1), (2, .int p2)] := hl
  unfold X8_walk at hE
  refine lv_iload_n hx hb dX8_walk_0 rfl (lv_at hl 1 rfl) ?_
  obtain ⟨r1, hc, hE⟩ := bd1_some hE
  refine xc_S1 (rest := []) (c_X8_isAnyOutline hc) mw_X8_isAnyOutline km_X8_102 hx hb hml hown hG hI xA_of ⟨Nat.le_of_ble_eq_true rfl, Nat.le_of_ble_eq_true rfl⟩ rfl hl.1 rfl (Nat.le_of_ble_eq_true rfl) dX8_walk_1 (fun H locs hI => ?_)
  refine lv_if_eq (tgt := 11) hx hb dX8_walk_4 (by decide) (fun c4 => ?_) (fun c4 => ?_)
  · rw [if_pos c4] at hE
    refine lv_aload_n hx hb dX8_walk_11 rfl (lv_at hl 0 rfl) ?_
    refine lv_bipush (v := (-2)) hx hb dX8_walk_12 (by decide) ?_
    obtain ⟨r2, mu3, hc, hE⟩ := bd2_some hE
    refine xc_V1 (rest := []) (c_X8_refuse hc) mw_X8_refuse km_X8_109 hx hb hml hown hG hI xA_of (wG_atE (by omega) eX_58) rfl rfl ⟨Nat.le_of_ble_eq_true rfl, Nat.le_of_ble_eq_true rfl⟩ rfl hl.1 rfl (Nat.le_of_ble_eq_true rfl) dX8_walk_14 (fun H locs hI => ?_)
    obtain ⟨rfl, rfl⟩ := sm2 hE
    exact xr_i hx hb hr hlk hG hI dX8_walk_17
  · rw [if_neg c4] at hE
    refine lv_iload_n hx hb dX8_walk_7 rfl (lv_at hl 2 rfl) ?_
    refine lv_if_ge (tgt := 18) hx hb dX8_walk_8 (by decide) (fun c8 => ?_) (fun c8 => ?_)
    · rw [if_pos c8] at hE
      refine lv_aload_n hx hb dX8_walk_18 rfl (lv_at hl 0 rfl) ?_
      refine lv_iload_n hx hb dX8_walk_19 rfl (lv_at hl 1 rfl) ?_
      obtain ⟨r4, mu5, hc, hE⟩ := bd2_some hE
      refine xc_V1 (rest := []) (c_X8_outline hc) mw_X8_outline km_X8_94 hx hb hml hown hG hI xA_of (wG_atE (by omega) eX_58) rfl rfl ⟨Nat.le_of_ble_eq_true rfl, Nat.le_of_ble_eq_true rfl⟩ rfl hl.1 rfl (Nat.le_of_ble_eq_true rfl) dX8_walk_20 (fun H locs hI => ?_)
      have hr4 : r4 < 25 := lt_X8_outline hc
      refine lv_astore_n (lv' := [(3, .ref (A r4)), (0, .ref (A 58)), (1, .int p1), (2, .int p2)]) hx hb dX8_walk_23 rfl hl (by decide) rfl (fun ls hl => ?_)
      refine lv_iload_n hx hb dX8_walk_24 rfl (lv_at hl 3 rfl) ?_
      refine lv_bipush (v := 16) hx hb dX8_walk_25 (by decide) ?_
      obtain ⟨x6, hZ, hE⟩ := bd1_some hE
      have hJ35_6 : ∀ (H : Heap) (locs : List Loc) (ls : Array Slot), xI D (va_A (wX A cI cZ cD u) s.heap.size) s.heap (wX A cI cZ cD mu5) H locs → lv_has ls 6 [(2, .int p2), (3, .ref (A r4))] → W p l e (rmOf 6 137) s m ([.ref (A 58), .int p1, .int p2] : List Value).toArray below meth c H locs 0 0 (xQ D (tyL cI cZ cD) below ([.ref (A 58), .int p1, .int p2] : List Value).toArray s (wX A cI cZ cD u) (some (.int r)) (wX A cI cZ cD u1)) (F0 m 35 ls [.int x6]) := by
        intro H locs ls hI hl
        clear hZ
        refine lv_istore (lv' := [(4, .int x6), (2, .int p2), (3, .ref (A r4))]) hx hb dX8_walk_35 hl (by decide) rfl (fun ls hl => ?_)
        refine lv_iconst (v := 0) hx hb dX8_walk_37 (by decide) ?_
        refine lv_istore (lv' := [(5, .int 0), (4, .int x6), (2, .int p2), (3, .ref (A r4))]) hx hb dX8_walk_38 hl (by decide) rfl (fun ls hl => ?_)
        obtain ⟨x10, hZ, hE⟩ := bd1_some hE
        have hX40_10 : ∀ (H : Heap) (locs : List Loc) (ls : Array Slot), xI D (va_A (wX A cI cZ cD u) s.heap.size) s.heap (wX A cI cZ cD mu5) H locs → lv_has ls 6 [(4, .int x10)] → W p l e (rmOf 6 137) s m ([.ref (A 58), .int p1, .int p2] : List Value).toArray below meth c H locs 0 0 (xQ D (tyL cI cZ cD) below ([.ref (A 58), .int p1, .int p2] : List Value).toArray s (wX A cI cZ cD u) (some (.int r)) (wX A cI cZ cD u1)) (F0 m 67 ls []) := by
          intro H locs ls hI hl
          clear hZ
          refine lv_iload hx hb dX8_walk_67 (lv_at hl 0 rfl) ?_
          obtain ⟨rfl, rfl⟩ := sm2 hE
          exact xr_i hx hb hr hlk hG hI dX8_walk_69
        replace hE := hZ
        clear hZ
        have hL40 : ∀ (n40 : Nat) (x8 : Int32) (x9 : Int32) (H : Heap) (locs : List Loc) (ls : Array Slot), X8_walk_L40 p2 r4 mu5 n40 x8 x9 = some x10 → xI D (va_A (wX A cI cZ cD u) s.heap.size) s.heap (wX A cI cZ cD mu5) H locs → lv_has ls 6 [(2, .int p2), (3, .ref (A r4)), (4, .int x8), (5, .int x9)] → W p l e (rmOf 6 137) s m ([.ref (A 58), .int p1, .int p2] : List Value).toArray below meth c H locs 0 0 (xQ D (tyL cI cZ cD) below ([.ref (A 58), .int p1, .int p2] : List Value).toArray s (wX A cI cZ cD u) (some (.int r)) (wX A cI cZ cD u1)) (F0 m 40 ls []) := by
          intro n40
          induction n40 with
          | zero =>
            intro x8 x9 H locs ls hE
            exact absurd hE (by simp [X8_walk_L40])
          | succ n40 ih40 =>
            intro x8 x9 H locs ls hE hI hl
            rw [X8_walk_L40] at hE
            refine lv_iload hx hb dX8_walk_40 (lv_at hl 3 rfl) ?_
            refine lv_iload_n hx hb dX8_walk_42 rfl (lv_at hl 0 rfl) ?_
            refine lv_icmp_ge (tgt := 67) hx hb dX8_walk_43 (by decide) (fun c43 => ?_) (fun c43 => ?_)
            · rw [if_pos c43] at hE
              obtain rfl := sm1 hE
              exact hX40_10 _ _ _ hI (lv_sub hl [2] rfl)
            · rw [if_neg c43] at hE
              refine lv_iload hx hb dX8_walk_46 (lv_at hl 3 rfl) ?_
              refine lv_bipush (v := 16) hx hb dX8_walk_48 (by decide) ?_
              refine lv_icmp_ge (tgt := 67) hx hb dX8_walk_50 (by decide) (fun c50 => ?_) (fun c50 => ?_)
              · rw [if_pos c50] at hE
                obtain rfl := sm1 hE
                exact hX40_10 _ _ _ hI (lv_sub hl [2] rfl)
              · rw [if_neg c50] at hE
                refine lv_aload_n hx hb dX8_walk_53 rfl (lv_at hl 1 rfl) ?_
                refine lv_iload hx hb dX8_walk_54 (lv_at hl 2 rfl) ?_
                obtain ⟨r12, hc, hE⟩ := bd1_some hE
                refine xc_V1 (rest := []) (Ct.toXr (j := r4) (by omega) (c_X4_following (OKX (j := r4) (by omega)) hc)) mw_X4_following km_X8_126 hx hb hml hown hG hI xA_of (wG_atE (by omega) (eX_O (j := r4) (by omega))) rfl rfl ⟨Nat.le_of_ble_eq_true rfl, Nat.le_of_ble_eq_true rfl⟩ rfl hl.1 rfl (Nat.le_of_ble_eq_true rfl) dX8_walk_56 (fun H locs hI => ?_)
                refine lv_istore (lv' := [(4, .int r12), (2, .int p2), (3, .ref (A r4)), (5, .int x9)]) hx hb dX8_walk_59 hl (by decide) rfl (fun ls hl => ?_)
                refine lv_iinc (v := x9 + 1) (lv' := [(5, .int (x9 + 1)), (4, .int r12), (2, .int p2), (3, .ref (A r4))]) hx hb dX8_walk_61 hl (k := 3) rfl rfl (by decide) rfl (fun ls hl => ?_)
                refine lv_goto (tgt := 40) hx hb dX8_walk_64 (by decide) ?_
                exact ih40 _ _ _ _ _ hE hI (lv_sub hl [2, 3, 1, 0] rfl)
        exact hL40 _ _ _ _ _ _ hE hI (lv_sub hl [2, 3, 1, 0] rfl)
      replace hE := hZ
      clear hZ
      refine lv_icmp_ge (tgt := 34) hx hb dX8_walk_27 (by decide) (fun c27 => ?_) (fun c27 => ?_)
      · rw [if_pos c27] at hE
        refine lv_iconst (v := (-1)) hx hb dX8_walk_34 (by decide) ?_
        obtain rfl := sm1 hE
        exact hJ35_6 _ _ _ hI (lv_sub hl [3, 0] rfl)
      · rw [if_neg c27] at hE
        refine lv_iconst (v := 0) hx hb dX8_walk_30 (by decide) ?_
        refine lv_goto (tgt := 35) hx hb dX8_walk_31 (by decide) ?_
        obtain rfl := sm1 hE
        exact hJ35_6 _ _ _ hI (lv_sub hl [3, 0] rfl)
    · rw [if_neg c8] at hE
      refine lv_aload_n hx hb dX8_walk_11 rfl (lv_at hl 0 rfl) ?_
      refine lv_bipush (v := (-2)) hx hb dX8_walk_12 (by decide) ?_
      obtain ⟨r13, mu14, hc, hE⟩ := bd2_some hE
      refine xc_V1 (rest := []) (c_X8_refuse hc) mw_X8_refuse km_X8_109 hx hb hml hown hG hI xA_of (wG_atE (by omega) eX_58) rfl rfl ⟨Nat.le_of_ble_eq_true rfl, Nat.le_of_ble_eq_true rfl⟩ rfl hl.1 rfl (Nat.le_of_ble_eq_true rfl) dX8_walk_14 (fun H locs hI => ?_)
      obtain ⟨rfl, rfl⟩ := sm2 hE
      exact xr_i hx hb hr hlk hG hI dX8_walk_17
def X8_size (u : Mem) (p1 : Int32) (p2 : Int32) : Option (Int32 × Mem) :=
  (X8_isAnyOutline p1 : Option Bool).bind fun (r1 : Bool) => (if (b2i r1) = 0 then bd2 (X8_refuse u (-2)) fun (r2 : Int32) (mu3 : Mem) => some (r2, mu3) else (if p2 < 0 then bd2 (X8_refuse u (-2)) fun (r4 : Int32) (mu5 : Mem) => some (r4, mu5) else (if p2 ≤ 1 then (if p2 = 0 then bd2 (X8_outline u p1) fun (r9 : Nat) (mu10 : Mem) => (X4_count (mu10 (25 + r9)) : Option Int32).bind fun (r11 : Int32) => some (r11, mu10) else bd2 (X8_outline u p1) fun (r6 : Nat) (mu7 : Mem) => (X4_depth (mu7 (25 + r6)) : Option Int32).bind fun (r8 : Int32) => some (r8, mu7)) else bd2 (X8_refuse u (-2)) fun (r12 : Int32) (mu13 : Mem) => some (r12, mu13))))
set_option maxHeartbeats 4000000 in
set_option maxRecDepth 100000 in
theorem c_X8_size {l : Launch} {D : va_G} {A : Nat → Nat} {cI cZ cD : ClassId} {u u1 : Mem} {p1 : Int32} {p2 : Int32} {r : Int32}  (hE : X8_size u p1 p2 = some (r, u1)) : Ct l yX8_size cX8_size 3 (some .int) (rmOf 6 137) D (tyL cI cZ cD) [.ref (A 58), .int p1, .int p2] (wX A cI cZ cD u) (some (.int r)) (wX A cI cZ cD u1) := by
  refine Ct.ofW (by decide +kernel) (fun p e s m below meth c hC hI => ?_)
  obtain ⟨hx, hb, hml, hown, hr, hlk, hG⟩ := hC
  have hown : s.vm.findClass RX8 = some m.cls := hown
  have hl := lv_entry ([.ref (A 58), .int p1, .int p2] : List Value) (n := 3) (Nat.le_of_ble_eq_true rfl)
  rw [lg_entry_eq]
  generalize (lg_sl ([.ref (A 58), .int p1, .int p2] : List Value) ++ List.replicate (3 - (lg_sl ([.ref (A 58), .int p1, .int p2] : List Value)).length) Slot.unset).toArray = ls at hl ⊢
  have hl : lv_has ls 3 [(0, .ref (A 58)), (1, .int p1), (2, .int p2)] := hl
  unfold X8_size at hE
  refine lv_iload_n hx hb dX8_size_0 rfl (lv_at hl 1 rfl) ?_
  obtain ⟨r1, hc, hE⟩ := bd1_some hE
  refine xc_S1 (rest := []) (c_X8_isAnyOutline hc) mw_X8_isAnyOutline km_X8_102 hx hb hml hown hG hI xA_of ⟨Nat.le_of_ble_eq_true rfl, Nat.le_of_ble_eq_true rfl⟩ rfl hl.1 rfl (Nat.le_of_ble_eq_true rfl) dX8_size_1 (fun H locs hI => ?_)
  refine lv_if_eq (tgt := 16) hx hb dX8_size_4 (by decide) (fun c4 => ?_) (fun c4 => ?_)
  · rw [if_pos c4] at hE
    refine lv_aload_n hx hb dX8_size_16 rfl (lv_at hl 0 rfl) ?_
    refine lv_bipush (v := (-2)) hx hb dX8_size_17 (by decide) ?_
    obtain ⟨r2, mu3, hc, hE⟩ := bd2_some hE
    refine xc_V1 (rest := []) (c_X8_refuse hc) mw_X8_refuse km_X8_109 hx hb hml hown hG hI xA_of (wG_atE (by omega) eX_58) rfl rfl ⟨Nat.le_of_ble_eq_true rfl, Nat.le_of_ble_eq_true rfl⟩ rfl hl.1 rfl (Nat.le_of_ble_eq_true rfl) dX8_size_19 (fun H locs hI => ?_)
    obtain ⟨rfl, rfl⟩ := sm2 hE
    exact xr_i hx hb hr hlk hG hI dX8_size_22
  · rw [if_neg c4] at hE
    refine lv_iload_n hx hb dX8_size_7 rfl (lv_at hl 2 rfl) ?_
    refine lv_if_lt (tgt := 16) hx hb dX8_size_8 (by decide) (fun c8 => ?_) (fun c8 => ?_)
    · rw [if_pos c8] at hE
      refine lv_aload_n hx hb dX8_size_16 rfl (lv_at hl 0 rfl) ?_
      refine lv_bipush (v := (-2)) hx hb dX8_size_17 (by decide) ?_
      obtain ⟨r4, mu5, hc, hE⟩ := bd2_some hE
      refine xc_V1 (rest := []) (c_X8_refuse hc) mw_X8_refuse km_X8_109 hx hb hml hown hG hI xA_of (wG_atE (by omega) eX_58) rfl rfl ⟨Nat.le_of_ble_eq_true rfl, Nat.le_of_ble_eq_true rfl⟩ rfl hl.1 rfl (Nat.le_of_ble_eq_true rfl) dX8_size_19 (fun H locs hI => ?_)
      obtain ⟨rfl, rfl⟩ := sm2 hE
      exact xr_i hx hb hr hlk hG hI dX8_size_22
    · rw [if_neg c8] at hE
      refine lv_iload_n hx hb dX8_size_11 rfl (lv_at hl 2 rfl) ?_
      refine lv_iconst (v := 1) hx hb dX8_size_12 (by decide) ?_
      refine lv_icmp_le (tgt := 23) hx hb dX8_size_13 (by decide) (fun c13 => ?_) (fun c13 => ?_)
      · rw [if_pos c13] at hE
        refine lv_iload_n hx hb dX8_size_23 rfl (lv_at hl 2 rfl) ?_
        refine lv_if_ne (tgt := 38) hx hb dX8_size_24 (by decide) (fun c24 => ?_) (fun c24 => ?_)
        · rw [if_neg c24] at hE
          refine lv_aload_n hx hb dX8_size_38 rfl (lv_at hl 0 rfl) ?_
          refine lv_iload_n hx hb dX8_size_39 rfl (lv_at hl 1 rfl) ?_
          obtain ⟨r6, mu7, hc, hE⟩ := bd2_some hE
          refine xc_V1 (rest := []) (c_X8_outline hc) mw_X8_outline km_X8_94 hx hb hml hown hG hI xA_of (wG_atE (by omega) eX_58) rfl rfl ⟨Nat.le_of_ble_eq_true rfl, Nat.le_of_ble_eq_true rfl⟩ rfl hl.1 rfl (Nat.le_of_ble_eq_true rfl) dX8_size_40 (fun H locs hI => ?_)
          have hr6 : r6 < 25 := lt_X8_outline hc
          obtain ⟨r8, hc, hE⟩ := bd1_some hE
          refine xc_V1 (rest := []) (Ct.toXr (j := r6) (by omega) (c_X4_depth (OKX (j := r6) (by omega)) hc)) mw_X4_depth km_X8_132 hx hb hml hown hG hI xA_of (wG_atE (by omega) (eX_O (j := r6) (by omega))) rfl rfl ⟨Nat.le_of_ble_eq_true rfl, Nat.le_of_ble_eq_true rfl⟩ rfl hl.1 rfl (Nat.le_of_ble_eq_true rfl) dX8_size_43 (fun H locs hI => ?_)
          obtain ⟨rfl, rfl⟩ := sm2 hE
          exact xr_i hx hb hr hlk hG hI dX8_size_46
        · rw [if_pos c24] at hE
          refine lv_aload_n hx hb dX8_size_27 rfl (lv_at hl 0 rfl) ?_
          refine lv_iload_n hx hb dX8_size_28 rfl (lv_at hl 1 rfl) ?_
          obtain ⟨r9, mu10, hc, hE⟩ := bd2_some hE
          refine xc_V1 (rest := []) (c_X8_outline hc) mw_X8_outline km_X8_94 hx hb hml hown hG hI xA_of (wG_atE (by omega) eX_58) rfl rfl ⟨Nat.le_of_ble_eq_true rfl, Nat.le_of_ble_eq_true rfl⟩ rfl hl.1 rfl (Nat.le_of_ble_eq_true rfl) dX8_size_29 (fun H locs hI => ?_)
          have hr9 : r9 < 25 := lt_X8_outline hc
          obtain ⟨r11, hc, hE⟩ := bd1_some hE
          refine xc_V1 (rest := []) (Ct.toXr (j := r9) (by omega) (c_X4_count (OKX (j := r9) (by omega)) hc)) mw_X4_count km_X8_129 hx hb hml hown hG hI xA_of (wG_atE (by omega) (eX_O (j := r9) (by omega))) rfl rfl ⟨Nat.le_of_ble_eq_true rfl, Nat.le_of_ble_eq_true rfl⟩ rfl hl.1 rfl (Nat.le_of_ble_eq_true rfl) dX8_size_32 (fun H locs hI => ?_)
          refine lv_goto (tgt := 46) hx hb dX8_size_35 (by decide) ?_
          obtain ⟨rfl, rfl⟩ := sm2 hE
          exact xr_i hx hb hr hlk hG hI dX8_size_46
      · rw [if_neg c13] at hE
        refine lv_aload_n hx hb dX8_size_16 rfl (lv_at hl 0 rfl) ?_
        refine lv_bipush (v := (-2)) hx hb dX8_size_17 (by decide) ?_
        obtain ⟨r12, mu13, hc, hE⟩ := bd2_some hE
        refine xc_V1 (rest := []) (c_X8_refuse hc) mw_X8_refuse km_X8_109 hx hb hml hown hG hI xA_of (wG_atE (by omega) eX_58) rfl rfl ⟨Nat.le_of_ble_eq_true rfl, Nat.le_of_ble_eq_true rfl⟩ rfl hl.1 rfl (Nat.le_of_ble_eq_true rfl) dX8_size_19 (fun H locs hI => ?_)
        obtain ⟨rfl, rfl⟩ := sm2 hE
        exact xr_i hx hb hr hlk hG hI dX8_size_22
def X8_alike (u : Mem) (p1 : Int32) (p2 : Int32) : Option (Int32 × Mem) :=
  (X8_isAnyOutline p1 : Option Bool).bind fun (r1 : Bool) => (if (b2i r1) = 0 then bd2 (X8_refuse u (-2)) fun (r2 : Int32) (mu3 : Mem) => some (r2, mu3) else (X8_isAnyOutline p2 : Option Bool).bind fun (r4 : Bool) => (if (b2i r4) = 0 then bd2 (X8_refuse u (-2)) fun (r10 : Int32) (mu11 : Mem) => some (r10, mu11) else bd2 (X8_outline u p1) fun (r5 : Nat) (mu6 : Mem) => bd2 (X8_outline mu6 p2) fun (r7 : Nat) (mu8 : Mem) => (X4_countShared mu8 r5 r7 : Option Int32).bind fun (r9 : Int32) => some (r9, mu8)))
set_option maxHeartbeats 4000000 in
set_option maxRecDepth 100000 in
theorem c_X8_alike {l : Launch} {D : va_G} {A : Nat → Nat} {cI cZ cD : ClassId} {u u1 : Mem} {p1 : Int32} {p2 : Int32} {r : Int32}  (hE : X8_alike u p1 p2 = some (r, u1)) : Ct l yX8_alike cX8_alike 3 (some .int) (rmOf 6 137) D (tyL cI cZ cD) [.ref (A 58), .int p1, .int p2] (wX A cI cZ cD u) (some (.int r)) (wX A cI cZ cD u1) := by
  refine Ct.ofW (by decide +kernel) (fun p e s m below meth c hC hI => ?_)
  obtain ⟨hx, hb, hml, hown, hr, hlk, hG⟩ := hC
  have hown : s.vm.findClass RX8 = some m.cls := hown
  have hl := lv_entry ([.ref (A 58), .int p1, .int p2] : List Value) (n := 3) (Nat.le_of_ble_eq_true rfl)
  rw [lg_entry_eq]
  generalize (lg_sl ([.ref (A 58), .int p1, .int p2] : List Value) ++ List.replicate (3 - (lg_sl ([.ref (A 58), .int p1, .int p2] : List Value)).length) Slot.unset).toArray = ls at hl ⊢
  have hl : lv_has ls 3 [(0, .ref (A 58)), (1, .int p1), (2, .int p2)] := hl
  unfold X8_alike at hE
  refine lv_iload_n hx hb dX8_alike_0 rfl (lv_at hl 1 rfl) ?_
  obtain ⟨r1, hc, hE⟩ := bd1_some hE
  refine xc_S1 (rest := []) (c_X8_isAnyOutline hc) mw_X8_isAnyOutline km_X8_102 hx hb hml hown hG hI xA_of ⟨Nat.le_of_ble_eq_true rfl, Nat.le_of_ble_eq_true rfl⟩ rfl hl.1 rfl (Nat.le_of_ble_eq_true rfl) dX8_alike_1 (fun H locs hI => ?_)
  refine lv_if_eq (tgt := 14) hx hb dX8_alike_4 (by decide) (fun c4 => ?_) (fun c4 => ?_)
  · rw [if_pos c4] at hE
    refine lv_aload_n hx hb dX8_alike_14 rfl (lv_at hl 0 rfl) ?_
    refine lv_bipush (v := (-2)) hx hb dX8_alike_15 (by decide) ?_
    obtain ⟨r2, mu3, hc, hE⟩ := bd2_some hE
    refine xc_V1 (rest := []) (c_X8_refuse hc) mw_X8_refuse km_X8_109 hx hb hml hown hG hI xA_of (wG_atE (by omega) eX_58) rfl rfl ⟨Nat.le_of_ble_eq_true rfl, Nat.le_of_ble_eq_true rfl⟩ rfl hl.1 rfl (Nat.le_of_ble_eq_true rfl) dX8_alike_17 (fun H locs hI => ?_)
    obtain ⟨rfl, rfl⟩ := sm2 hE
    exact xr_i hx hb hr hlk hG hI dX8_alike_20
  · rw [if_neg c4] at hE
    refine lv_iload_n hx hb dX8_alike_7 rfl (lv_at hl 2 rfl) ?_
    obtain ⟨r4, hc, hE⟩ := bd1_some hE
    refine xc_S1 (rest := []) (c_X8_isAnyOutline hc) mw_X8_isAnyOutline km_X8_102 hx hb hml hown hG hI xA_of ⟨Nat.le_of_ble_eq_true rfl, Nat.le_of_ble_eq_true rfl⟩ rfl hl.1 rfl (Nat.le_of_ble_eq_true rfl) dX8_alike_8 (fun H locs hI => ?_)
    refine lv_if_ne (tgt := 21) hx hb dX8_alike_11 (by decide) (fun c11 => ?_) (fun c11 => ?_)
    · rw [if_neg c11] at hE
      refine lv_aload_n hx hb dX8_alike_21 rfl (lv_at hl 0 rfl) ?_
      refine lv_iload_n hx hb dX8_alike_22 rfl (lv_at hl 1 rfl) ?_
      obtain ⟨r5, mu6, hc, hE⟩ := bd2_some hE
      refine xc_V1 (rest := []) (c_X8_outline hc) mw_X8_outline km_X8_94 hx hb hml hown hG hI xA_of (wG_atE (by omega) eX_58) rfl rfl ⟨Nat.le_of_ble_eq_true rfl, Nat.le_of_ble_eq_true rfl⟩ rfl hl.1 rfl (Nat.le_of_ble_eq_true rfl) dX8_alike_23 (fun H locs hI => ?_)
      have hr5 : r5 < 25 := lt_X8_outline hc
      refine lv_aload_n hx hb dX8_alike_26 rfl (lv_at hl 0 rfl) ?_
      refine lv_iload_n hx hb dX8_alike_27 rfl (lv_at hl 2 rfl) ?_
      obtain ⟨r7, mu8, hc, hE⟩ := bd2_some hE
      refine xc_V1 (rest := [.ref (A r5)]) (c_X8_outline hc) mw_X8_outline km_X8_94 hx hb hml hown hG hI xA_of (wG_atE (by omega) eX_58) rfl rfl ⟨Nat.le_of_ble_eq_true rfl, Nat.le_of_ble_eq_true rfl⟩ rfl hl.1 rfl (Nat.le_of_ble_eq_true rfl) dX8_alike_28 (fun H locs hI => ?_)
      have hr7 : r7 < 25 := lt_X8_outline hc
      obtain ⟨r9, hc, hE⟩ := bd1_some hE
      refine xc_V1 (rest := []) (c_X4_countShared (by omega) (by omega) hc) mw_X4_countShared km_X8_135 hx hb hml hown hG hI xA_of (wG_atE (by omega) (eX_O (j := r5) (by omega))) rfl rfl ⟨Nat.le_of_ble_eq_true rfl, Nat.le_of_ble_eq_true rfl⟩ rfl hl.1 rfl (Nat.le_of_ble_eq_true rfl) dX8_alike_31 (fun H locs hI => ?_)
      obtain ⟨rfl, rfl⟩ := sm2 hE
      exact xr_i hx hb hr hlk hG hI dX8_alike_34
    · rw [if_pos c11] at hE
      refine lv_aload_n hx hb dX8_alike_14 rfl (lv_at hl 0 rfl) ?_
      refine lv_bipush (v := (-2)) hx hb dX8_alike_15 (by decide) ?_
      obtain ⟨r10, mu11, hc, hE⟩ := bd2_some hE
      refine xc_V1 (rest := []) (c_X8_refuse hc) mw_X8_refuse km_X8_109 hx hb hml hown hG hI xA_of (wG_atE (by omega) eX_58) rfl rfl ⟨Nat.le_of_ble_eq_true rfl, Nat.le_of_ble_eq_true rfl⟩ rfl hl.1 rfl (Nat.le_of_ble_eq_true rfl) dX8_alike_17 (fun H locs hI => ?_)
      obtain ⟨rfl, rfl⟩ := sm2 hE
      exact xr_i hx hb hr hlk hG hI dX8_alike_20
def X8_conflicts (u : Mem) (p1 : Int32) (p2 : Int32) : Option (Int32 × Mem) :=
  (X8_isRowAsked p1 p2 3 : Option Bool).bind fun (r1 : Bool) => (if (b2i r1) = 0 then bd2 (X8_refuse u (-2)) fun (r4 : Int32) (mu5 : Mem) => some (r4, mu5) else (X3_refresh u 0 : Option Mem).bind fun (mu2 : Mem) => (X6_answer mu2 0 p1 p2 : Option Int32).bind fun (r3 : Int32) => some (r3, mu2))
set_option maxHeartbeats 4000000 in
set_option maxRecDepth 100000 in
theorem c_X8_conflicts {l : Launch} {D : va_G} {A : Nat → Nat} {cI cZ cD : ClassId} {u u1 : Mem} {p1 : Int32} {p2 : Int32} {r : Int32}  (hE : X8_conflicts u p1 p2 = some (r, u1)) : Ct l yX8_conflicts cX8_conflicts 3 (some .int) (rmOf 5 116) D (tyL cI cZ cD) [.ref (A 58), .int p1, .int p2] (wX A cI cZ cD u) (some (.int r)) (wX A cI cZ cD u1) := by
  refine Ct.ofW (by decide +kernel) (fun p e s m below meth c hC hI => ?_)
  obtain ⟨hx, hb, hml, hown, hr, hlk, hG⟩ := hC
  have hown : s.vm.findClass RX8 = some m.cls := hown
  have hl := lv_entry ([.ref (A 58), .int p1, .int p2] : List Value) (n := 3) (Nat.le_of_ble_eq_true rfl)
  rw [lg_entry_eq]
  generalize (lg_sl ([.ref (A 58), .int p1, .int p2] : List Value) ++ List.replicate (3 - (lg_sl ([.ref (A 58), .int p1, .int p2] : List Value)).length) Slot.unset).toArray = ls at hl ⊢
  have hl : lv_has ls 3 [(0, .ref (A 58)), (1, .int p1), (2, .int p2)] := hl
  unfold X8_conflicts at hE
  refine lv_iload_n hx hb dX8_conflicts_0 rfl (lv_at hl 1 rfl) ?_
  refine lv_iload_n hx hb dX8_conflicts_1 rfl (lv_at hl 2 rfl) ?_
  refine lv_iconst (v := 3) hx hb dX8_conflicts_2 (by decide) ?_
  obtain ⟨r1, hc, hE⟩ := bd1_some hE
  refine xc_S1 (rest := []) (c_X8_isRowAsked hc) mw_X8_isRowAsked km_X8_138 hx hb hml hown hG hI xA_of ⟨Nat.le_of_ble_eq_true rfl, Nat.le_of_ble_eq_true rfl⟩ rfl hl.1 rfl (Nat.le_of_ble_eq_true rfl) dX8_conflicts_3 (fun H locs hI => ?_)
  refine lv_if_ne (tgt := 16) hx hb dX8_conflicts_6 (by decide) (fun c6 => ?_) (fun c6 => ?_)
  · rw [if_neg c6] at hE
    refine lv_aload_n hx hb dX8_conflicts_16 rfl (lv_at hl 0 rfl) ?_
    refine xg_get (C := RX8) (T := TX8) (M := 10) hx hb hown hG hI (by omega) eX_58 rfl inX8 3 (by decide) kf_X8_29 rfl dX8_conflicts_17 ?_
    refine lv_aload_n hx hb dX8_conflicts_20 rfl (lv_at hl 0 rfl) ?_
    refine xg_get (C := RX8) (T := TX8) (M := 10) hx hb hown hG hI (by omega) eX_58 rfl inX8 0 (by decide) kf_X8_12 rfl dX8_conflicts_21 ?_
    obtain ⟨mu2, hc, hE⟩ := bd1_some hE
    refine xc_V0 (rest := []) (c_X3_refresh (by omega) hc) mw_X3_refresh km_X8_142 hx hb hml hown hG hI xA_of (wG_atE (by omega) eX_61) rfl rfl ⟨Nat.le_of_ble_eq_true rfl, Nat.le_of_ble_eq_true rfl⟩ rfl hl.1 rfl (Nat.le_of_ble_eq_true rfl) dX8_conflicts_24 (fun H locs hI => ?_)
    refine lv_aload_n hx hb dX8_conflicts_27 rfl (lv_at hl 0 rfl) ?_
    refine xg_get (C := RX8) (T := TX8) (M := 10) hx hb hown hG hI (by omega) eX_58 rfl inX8 3 (by decide) kf_X8_29 rfl dX8_conflicts_28 ?_
    refine xg_getN (C := RX3) (T := TX3) (M := 6) hx hb hown hG hI (by omega) eX_61 rfl inX3 2 (by decide) kf_X8_145 rfl dX8_conflicts_31 ?_
    refine lv_iload_n hx hb dX8_conflicts_34 rfl (lv_at hl 1 rfl) ?_
    refine lv_iload_n hx hb dX8_conflicts_35 rfl (lv_at hl 2 rfl) ?_
    obtain ⟨r3, hc, hE⟩ := bd1_some hE
    refine xc_V1 (rest := []) (c_X6_answer (by omega) hc) mw_X6_answer km_X8_149 hx hb hml hown hG hI xA_of (wG_atE (by omega) (eX_T (t := 0) (by omega))) rfl rfl ⟨Nat.le_of_ble_eq_true rfl, Nat.le_of_ble_eq_true rfl⟩ rfl hl.1 rfl (Nat.le_of_ble_eq_true rfl) dX8_conflicts_36 (fun H locs hI => ?_)
    obtain ⟨rfl, rfl⟩ := sm2 hE
    exact xr_i hx hb hr hlk hG hI dX8_conflicts_39
  · rw [if_pos c6] at hE
    refine lv_aload_n hx hb dX8_conflicts_9 rfl (lv_at hl 0 rfl) ?_
    refine lv_bipush (v := (-2)) hx hb dX8_conflicts_10 (by decide) ?_
    obtain ⟨r4, mu5, hc, hE⟩ := bd2_some hE
    refine xc_V1 (rest := []) (c_X8_refuse hc) mw_X8_refuse km_X8_109 hx hb hml hown hG hI xA_of (wG_atE (by omega) eX_58) rfl rfl ⟨Nat.le_of_ble_eq_true rfl, Nat.le_of_ble_eq_true rfl⟩ rfl hl.1 rfl (Nat.le_of_ble_eq_true rfl) dX8_conflicts_12 (fun H locs hI => ?_)
    obtain ⟨rfl, rfl⟩ := sm2 hE
    exact xr_i hx hb hr hlk hG hI dX8_conflicts_15
def X8_script (u : Mem) (p1 : Int32) (p2 : Int32) (p3 : Int32) : Option (Int32 × Mem) :=
  (X8_isSide p1 : Option Bool).bind fun (r1 : Bool) => (if (b2i r1) = 0 then bd2 (X8_refuse u (-2)) fun (r2 : Int32) (mu3 : Mem) => some (r2, mu3) else (X8_isRowAsked p2 p3 2 : Option Bool).bind fun (r4 : Bool) => (if (b2i r4) = 0 then bd2 (X8_refuse u (-2)) fun (r9 : Int32) (mu10 : Mem) => some (r9, mu10) else (X0_outline u 0 0 : Option Nat).bind fun (r5 : Nat) => (X0_outline u 0 p1 : Option Nat).bind fun (r6 : Nat) => (X5_write u r5 r6 : Option Mem).bind fun (mu7 : Mem) => (X6_answer mu7 1 p2 p3 : Option Int32).bind fun (r8 : Int32) => some (r8, mu7)))
set_option maxHeartbeats 4000000 in
set_option maxRecDepth 100000 in
theorem c_X8_script {l : Launch} {D : va_G} {A : Nat → Nat} {cI cZ cD : ClassId} {u u1 : Mem} {p1 : Int32} {p2 : Int32} {p3 : Int32} {r : Int32}  (hE : X8_script u p1 p2 p3 = some (r, u1)) : Ct l yX8_script cX8_script 4 (some .int) (rmOf 3 71) D (tyL cI cZ cD) [.ref (A 58), .int p1, .int p2, .int p3] (wX A cI cZ cD u) (some (.int r)) (wX A cI cZ cD u1) := by
  refine Ct.ofW (by decide +kernel) (fun p e s m below meth c hC hI => ?_)
  obtain ⟨hx, hb, hml, hown, hr, hlk, hG⟩ := hC
  have hown : s.vm.findClass RX8 = some m.cls := hown
  have hl := lv_entry ([.ref (A 58), .int p1, .int p2, .int p3] : List Value) (n := 4) (Nat.le_of_ble_eq_true rfl)
  rw [lg_entry_eq]
  generalize (lg_sl ([.ref (A 58), .int p1, .int p2, .int p3] : List Value) ++ List.replicate (4 - (lg_sl ([.ref (A 58), .int p1, .int p2, .int p3] : List Value)).length) Slot.unset).toArray = ls at hl ⊢
  have hl : lv_has ls 4 [(0, .ref (A 58)), (1, .int p1), (2, .int p2), (3, .int p3)] := hl
  unfold X8_script at hE
  refine lv_iload_n hx hb dX8_script_0 rfl (lv_at hl 1 rfl) ?_
  obtain ⟨r1, hc, hE⟩ := bd1_some hE
  refine xc_S1 (rest := []) (c_X8_isSide hc) mw_X8_isSide km_X8_154 hx hb hml hown hG hI xA_of ⟨Nat.le_of_ble_eq_true rfl, Nat.le_of_ble_eq_true rfl⟩ rfl hl.1 rfl (Nat.le_of_ble_eq_true rfl) dX8_script_1 (fun H locs hI => ?_)
  refine lv_if_eq (tgt := 16) hx hb dX8_script_4 (by decide) (fun c4 => ?_) (fun c4 => ?_)
  · rw [if_pos c4] at hE
    refine lv_aload_n hx hb dX8_script_16 rfl (lv_at hl 0 rfl) ?_
    refine lv_bipush (v := (-2)) hx hb dX8_script_17 (by decide) ?_
    obtain ⟨r2, mu3, hc, hE⟩ := bd2_some hE
    refine xc_V1 (rest := []) (c_X8_refuse hc) mw_X8_refuse km_X8_109 hx hb hml hown hG hI xA_of (wG_atE (by omega) eX_58) rfl rfl ⟨Nat.le_of_ble_eq_true rfl, Nat.le_of_ble_eq_true rfl⟩ rfl hl.1 rfl (Nat.le_of_ble_eq_true rfl) dX8_script_19 (fun H locs hI => ?_)
    obtain ⟨rfl, rfl⟩ := sm2 hE
    exact xr_i hx hb hr hlk hG hI dX8_script_22
  · rw [if_neg c4] at hE
    refine lv_iload_n hx hb dX8_script_7 rfl (lv_at hl 2 rfl) ?_
    refine lv_iload_n hx hb dX8_script_8 rfl (lv_at hl 3 rfl) ?_
    refine lv_iconst (v := 2) hx hb dX8_script_9 (by decide) ?_
    obtain ⟨r4, hc, hE⟩ := bd1_some hE
    refine xc_S1 (rest := []) (c_X8_isRowAsked hc) mw_X8_isRowAsked km_X8_138 hx hb hml hown hG hI xA_of ⟨Nat.le_of_ble_eq_true rfl, Nat.le_of_ble_eq_true rfl⟩ rfl hl.1 rfl (Nat.le_of_ble_eq_true rfl) dX8_script_10 (fun H locs hI => ?_)
    refine lv_if_ne (tgt := 23) hx hb dX8_script_13 (by decide) (fun c13 => ?_) (fun c13 => ?_)
    · rw [if_neg c13] at hE
      refine lv_aload_n hx hb dX8_script_23 rfl (lv_at hl 0 rfl) ?_
      refine xg_get (C := RX8) (T := TX8) (M := 10) hx hb hown hG hI (by omega) eX_58 rfl inX8 4 (by decide) kf_X8_36 rfl dX8_script_24 ?_
      refine lv_aload_n hx hb dX8_script_27 rfl (lv_at hl 0 rfl) ?_
      refine xg_get (C := RX8) (T := TX8) (M := 10) hx hb hown hG hI (by omega) eX_58 rfl inX8 0 (by decide) kf_X8_12 rfl dX8_script_28 ?_
      refine lv_iconst (v := 0) hx hb dX8_script_31 (by decide) ?_
      obtain ⟨r5, hc, hE⟩ := bd1_some hE
      refine xc_V1 (rest := [.ref (A 72)]) (c_X0_outline (by omega) hc) mw_X0_outline km_X8_157 hx hb hml hown hG hI xA_of (wG_atE (by omega) (eX_D (d := 0) (by omega))) rfl rfl ⟨Nat.le_of_ble_eq_true rfl, Nat.le_of_ble_eq_true rfl⟩ rfl hl.1 rfl (Nat.le_of_ble_eq_true rfl) dX8_script_32 (fun H locs hI => ?_)
      have hr5 : r5 < 25 := lt_X0_outline (by omega) hc
      refine lv_aload_n hx hb dX8_script_35 rfl (lv_at hl 0 rfl) ?_
      refine xg_get (C := RX8) (T := TX8) (M := 10) hx hb hown hG hI (by omega) eX_58 rfl inX8 0 (by decide) kf_X8_12 rfl dX8_script_36 ?_
      refine lv_iload_n hx hb dX8_script_39 rfl (lv_at hl 1 rfl) ?_
      obtain ⟨r6, hc, hE⟩ := bd1_some hE
      refine xc_V1 (rest := [.ref (A r5), .ref (A 72)]) (c_X0_outline (by omega) hc) mw_X0_outline km_X8_157 hx hb hml hown hG hI xA_of (wG_atE (by omega) (eX_D (d := 0) (by omega))) rfl rfl ⟨Nat.le_of_ble_eq_true rfl, Nat.le_of_ble_eq_true rfl⟩ rfl hl.1 rfl (Nat.le_of_ble_eq_true rfl) dX8_script_40 (fun H locs hI => ?_)
      have hr6 : r6 < 25 := lt_X0_outline (by omega) hc
      obtain ⟨mu7, hc, hE⟩ := bd1_some hE
      refine xc_V0 (rest := []) (c_X5_write (by omega) (by omega) hc) mw_X5_write km_X8_158 hx hb hml hown hG hI xA_of (wG_atE (by omega) eX_72) rfl rfl ⟨Nat.le_of_ble_eq_true rfl, Nat.le_of_ble_eq_true rfl⟩ rfl hl.1 rfl (Nat.le_of_ble_eq_true rfl) dX8_script_43 (fun H locs hI => ?_)
      refine lv_aload_n hx hb dX8_script_46 rfl (lv_at hl 0 rfl) ?_
      refine xg_get (C := RX8) (T := TX8) (M := 10) hx hb hown hG hI (by omega) eX_58 rfl inX8 4 (by decide) kf_X8_36 rfl dX8_script_47 ?_
      refine xg_getN (C := RX5) (T := TX5) (M := 1) hx hb hown hG hI (by omega) eX_72 rfl inX5 0 (by decide) kf_X8_162 rfl dX8_script_50 ?_
      refine lv_iload_n hx hb dX8_script_53 rfl (lv_at hl 2 rfl) ?_
      refine lv_iload_n hx hb dX8_script_54 rfl (lv_at hl 3 rfl) ?_
      obtain ⟨r8, hc, hE⟩ := bd1_some hE
      refine xc_V1 (rest := []) (c_X6_answer (by omega) hc) mw_X6_answer km_X8_149 hx hb hml hown hG hI xA_of (wG_atE (by omega) (eX_T (t := 1) (by omega))) rfl rfl ⟨Nat.le_of_ble_eq_true rfl, Nat.le_of_ble_eq_true rfl⟩ rfl hl.1 rfl (Nat.le_of_ble_eq_true rfl) dX8_script_55 (fun H locs hI => ?_)
      obtain ⟨rfl, rfl⟩ := sm2 hE
      exact xr_i hx hb hr hlk hG hI dX8_script_58
    · rw [if_pos c13] at hE
      refine lv_aload_n hx hb dX8_script_16 rfl (lv_at hl 0 rfl) ?_
      refine lv_bipush (v := (-2)) hx hb dX8_script_17 (by decide) ?_
      obtain ⟨r9, mu10, hc, hE⟩ := bd2_some hE
      refine xc_V1 (rest := []) (c_X8_refuse hc) mw_X8_refuse km_X8_109 hx hb hml hown hG hI xA_of (wG_atE (by omega) eX_58) rfl rfl ⟨Nat.le_of_ble_eq_true rfl, Nat.le_of_ble_eq_true rfl⟩ rfl hl.1 rfl (Nat.le_of_ble_eq_true rfl) dX8_script_19 (fun H locs hI => ?_)
      obtain ⟨rfl, rfl⟩ := sm2 hE
      exact xr_i hx hb hr hlk hG hI dX8_script_22
def X8_matches (u : Mem) (p1 : Int32) (p2 : Int32) : Option (Int32 × Mem) :=
  (X8_isSide p1 : Option Bool).bind fun (r1 : Bool) => (if (b2i r1) = 0 then bd2 (X8_refuse u (-2)) fun (r2 : Int32) (mu3 : Mem) => some (r2, mu3) else (if p2 = 0 then bd2 (X8_refuse u (-2)) fun (r4 : Int32) (mu5 : Mem) => some (r4, mu5) else (X0_outline u 0 p1 : Option Nat).bind fun (r6 : Nat) => (X4_holds (u (25 + r6)) p2 : Option Bool).bind fun (r7 : Bool) => (if (b2i r7) = 0 then bd2 (X8_refuse u (-2)) fun (r12 : Int32) (mu13 : Mem) => some (r12, mu13) else (X0_outline u 0 0 : Option Nat).bind fun (r8 : Nat) => (X0_outline u 0 p1 : Option Nat).bind fun (r9 : Nat) => (X2_match u r8 r9 : Option Mem).bind fun (mu10 : Mem) => (X2_partnerOf mu10 p2 : Option Int32).bind fun (r11 : Int32) => some (r11, mu10))))
set_option maxHeartbeats 4000000 in
set_option maxRecDepth 100000 in
theorem c_X8_matches {l : Launch} {D : va_G} {A : Nat → Nat} {cI cZ cD : ClassId} {u u1 : Mem} {p1 : Int32} {p2 : Int32} {r : Int32}  (hE : X8_matches u p1 p2 = some (r, u1)) : Ct l yX8_matches cX8_matches 3 (some .int) (rmOf 3 72) D (tyL cI cZ cD) [.ref (A 58), .int p1, .int p2] (wX A cI cZ cD u) (some (.int r)) (wX A cI cZ cD u1) := by
  refine Ct.ofW (by decide +kernel) (fun p e s m below meth c hC hI => ?_)
  obtain ⟨hx, hb, hml, hown, hr, hlk, hG⟩ := hC
  have hown : s.vm.findClass RX8 = some m.cls := hown
  have hl := lv_entry ([.ref (A 58), .int p1, .int p2] : List Value) (n := 3) (Nat.le_of_ble_eq_true rfl)
  rw [lg_entry_eq]
  generalize (lg_sl ([.ref (A 58), .int p1, .int p2] : List Value) ++ List.replicate (3 - (lg_sl ([.ref (A 58), .int p1, .int p2] : List Value)).length) Slot.unset).toArray = ls at hl ⊢
  have hl : lv_has ls 3 [(0, .ref (A 58)), (1, .int p1), (2, .int p2)] := hl
  unfold X8_matches at hE
  refine lv_iload_n hx hb dX8_matches_0 rfl (lv_at hl 1 rfl) ?_
  obtain ⟨r1, hc, hE⟩ := bd1_some hE
  refine xc_S1 (rest := []) (c_X8_isSide hc) mw_X8_isSide km_X8_154 hx hb hml hown hG hI xA_of ⟨Nat.le_of_ble_eq_true rfl, Nat.le_of_ble_eq_true rfl⟩ rfl hl.1 rfl (Nat.le_of_ble_eq_true rfl) dX8_matches_1 (fun H locs hI => ?_)
  refine lv_if_eq (tgt := 26) hx hb dX8_matches_4 (by decide) (fun c4 => ?_) (fun c4 => ?_)
  · rw [if_pos c4] at hE
    refine lv_aload_n hx hb dX8_matches_26 rfl (lv_at hl 0 rfl) ?_
    refine lv_bipush (v := (-2)) hx hb dX8_matches_27 (by decide) ?_
    obtain ⟨r2, mu3, hc, hE⟩ := bd2_some hE
    refine xc_V1 (rest := []) (c_X8_refuse hc) mw_X8_refuse km_X8_109 hx hb hml hown hG hI xA_of (wG_atE (by omega) eX_58) rfl rfl ⟨Nat.le_of_ble_eq_true rfl, Nat.le_of_ble_eq_true rfl⟩ rfl hl.1 rfl (Nat.le_of_ble_eq_true rfl) dX8_matches_29 (fun H locs hI => ?_)
    obtain ⟨rfl, rfl⟩ := sm2 hE
    exact xr_i hx hb hr hlk hG hI dX8_matches_32
  · rw [if_neg c4] at hE
    refine lv_iload_n hx hb dX8_matches_7 rfl (lv_at hl 2 rfl) ?_
    refine lv_if_eq (tgt := 26) hx hb dX8_matches_8 (by decide) (fun c8 => ?_) (fun c8 => ?_)
    · rw [if_pos c8] at hE
      refine lv_aload_n hx hb dX8_matches_26 rfl (lv_at hl 0 rfl) ?_
      refine lv_bipush (v := (-2)) hx hb dX8_matches_27 (by decide) ?_
      obtain ⟨r4, mu5, hc, hE⟩ := bd2_some hE
      refine xc_V1 (rest := []) (c_X8_refuse hc) mw_X8_refuse km_X8_109 hx hb hml hown hG hI xA_of (wG_atE (by omega) eX_58) rfl rfl ⟨Nat.le_of_ble_eq_true rfl, Nat.le_of_ble_eq_true rfl⟩ rfl hl.1 rfl (Nat.le_of_ble_eq_true rfl) dX8_matches_29 (fun H locs hI => ?_)
      obtain ⟨rfl, rfl⟩ := sm2 hE
      exact xr_i hx hb hr hlk hG hI dX8_matches_32
    · rw [if_neg c8] at hE
      refine lv_aload_n hx hb dX8_matches_11 rfl (lv_at hl 0 rfl) ?_
      refine xg_get (C := RX8) (T := TX8) (M := 10) hx hb hown hG hI (by omega) eX_58 rfl inX8 0 (by decide) kf_X8_12 rfl dX8_matches_12 ?_
      refine lv_iload_n hx hb dX8_matches_15 rfl (lv_at hl 1 rfl) ?_
      obtain ⟨r6, hc, hE⟩ := bd1_some hE
      refine xc_V1 (rest := []) (c_X0_outline (by omega) hc) mw_X0_outline km_X8_157 hx hb hml hown hG hI xA_of (wG_atE (by omega) (eX_D (d := 0) (by omega))) rfl rfl ⟨Nat.le_of_ble_eq_true rfl, Nat.le_of_ble_eq_true rfl⟩ rfl hl.1 rfl (Nat.le_of_ble_eq_true rfl) dX8_matches_16 (fun H locs hI => ?_)
      have hr6 : r6 < 25 := lt_X0_outline (by omega) hc
      refine lv_iload_n hx hb dX8_matches_19 rfl (lv_at hl 2 rfl) ?_
      obtain ⟨r7, hc, hE⟩ := bd1_some hE
      refine xc_V1 (rest := []) (Ct.toXr (j := r6) (by omega) (c_X4_holds (OKX (j := r6) (by omega)) hc)) mw_X4_holds km_X8_112 hx hb hml hown hG hI xA_of (wG_atE (by omega) (eX_O (j := r6) (by omega))) rfl rfl ⟨Nat.le_of_ble_eq_true rfl, Nat.le_of_ble_eq_true rfl⟩ rfl hl.1 rfl (Nat.le_of_ble_eq_true rfl) dX8_matches_20 (fun H locs hI => ?_)
      refine lv_if_ne (tgt := 33) hx hb dX8_matches_23 (by decide) (fun c23 => ?_) (fun c23 => ?_)
      · rw [if_neg c23] at hE
        refine lv_aload_n hx hb dX8_matches_33 rfl (lv_at hl 0 rfl) ?_
        refine xg_get (C := RX8) (T := TX8) (M := 10) hx hb hown hG hI (by omega) eX_58 rfl inX8 5 (by decide) kf_X8_43 rfl dX8_matches_34 ?_
        refine lv_aload_n hx hb dX8_matches_37 rfl (lv_at hl 0 rfl) ?_
        refine xg_get (C := RX8) (T := TX8) (M := 10) hx hb hown hG hI (by omega) eX_58 rfl inX8 0 (by decide) kf_X8_12 rfl dX8_matches_38 ?_
        refine lv_iconst (v := 0) hx hb dX8_matches_41 (by decide) ?_
        obtain ⟨r8, hc, hE⟩ := bd1_some hE
        refine xc_V1 (rest := [.ref (A 73)]) (c_X0_outline (by omega) hc) mw_X0_outline km_X8_157 hx hb hml hown hG hI xA_of (wG_atE (by omega) (eX_D (d := 0) (by omega))) rfl rfl ⟨Nat.le_of_ble_eq_true rfl, Nat.le_of_ble_eq_true rfl⟩ rfl hl.1 rfl (Nat.le_of_ble_eq_true rfl) dX8_matches_42 (fun H locs hI => ?_)
        have hr8 : r8 < 25 := lt_X0_outline (by omega) hc
        refine lv_aload_n hx hb dX8_matches_45 rfl (lv_at hl 0 rfl) ?_
        refine xg_get (C := RX8) (T := TX8) (M := 10) hx hb hown hG hI (by omega) eX_58 rfl inX8 0 (by decide) kf_X8_12 rfl dX8_matches_46 ?_
        refine lv_iload_n hx hb dX8_matches_49 rfl (lv_at hl 1 rfl) ?_
        obtain ⟨r9, hc, hE⟩ := bd1_some hE
        refine xc_V1 (rest := [.ref (A r8), .ref (A 73)]) (c_X0_outline (by omega) hc) mw_X0_outline km_X8_157 hx hb hml hown hG hI xA_of (wG_atE (by omega) (eX_D (d := 0) (by omega))) rfl rfl ⟨Nat.le_of_ble_eq_true rfl, Nat.le_of_ble_eq_true rfl⟩ rfl hl.1 rfl (Nat.le_of_ble_eq_true rfl) dX8_matches_50 (fun H locs hI => ?_)
        have hr9 : r9 < 25 := lt_X0_outline (by omega) hc
        obtain ⟨mu10, hc, hE⟩ := bd1_some hE
        refine xc_V0 (rest := []) (c_X2_match (by omega) (by omega) hc) mw_X2_match km_X8_165 hx hb hml hown hG hI xA_of (wG_atE (by omega) eX_73) rfl rfl ⟨Nat.le_of_ble_eq_true rfl, Nat.le_of_ble_eq_true rfl⟩ rfl hl.1 rfl (Nat.le_of_ble_eq_true rfl) dX8_matches_53 (fun H locs hI => ?_)
        refine lv_aload_n hx hb dX8_matches_56 rfl (lv_at hl 0 rfl) ?_
        refine xg_get (C := RX8) (T := TX8) (M := 10) hx hb hown hG hI (by omega) eX_58 rfl inX8 5 (by decide) kf_X8_43 rfl dX8_matches_57 ?_
        refine lv_iload_n hx hb dX8_matches_60 rfl (lv_at hl 2 rfl) ?_
        obtain ⟨r11, hc, hE⟩ := bd1_some hE
        refine xc_V1 (rest := []) (c_X2_partnerOf hc) mw_X2_partnerOf km_X8_168 hx hb hml hown hG hI xA_of (wG_atE (by omega) eX_73) rfl rfl ⟨Nat.le_of_ble_eq_true rfl, Nat.le_of_ble_eq_true rfl⟩ rfl hl.1 rfl (Nat.le_of_ble_eq_true rfl) dX8_matches_61 (fun H locs hI => ?_)
        obtain ⟨rfl, rfl⟩ := sm2 hE
        exact xr_i hx hb hr hlk hG hI dX8_matches_64
      · rw [if_pos c23] at hE
        refine lv_aload_n hx hb dX8_matches_26 rfl (lv_at hl 0 rfl) ?_
        refine lv_bipush (v := (-2)) hx hb dX8_matches_27 (by decide) ?_
        obtain ⟨r12, mu13, hc, hE⟩ := bd2_some hE
        refine xc_V1 (rest := []) (c_X8_refuse hc) mw_X8_refuse km_X8_109 hx hb hml hown hG hI xA_of (wG_atE (by omega) eX_58) rfl rfl ⟨Nat.le_of_ble_eq_true rfl, Nat.le_of_ble_eq_true rfl⟩ rfl hl.1 rfl (Nat.le_of_ble_eq_true rfl) dX8_matches_29 (fun H locs hI => ?_)
        obtain ⟨rfl, rfl⟩ := sm2 hE
        exact xr_i hx hb hr hlk hG hI dX8_matches_32
def X8_tellDesk (u : Mem) (p1 : Int32) : Option (Int32 × Mem) :=
  (if p1 = 0 then some (u 50 3, u) else (if p1 = 1 then some (u 50 4, u) else (X0_outline u 0 0 : Option Nat).bind fun (r1 : Nat) => ((if p1 = 2 then some 1 else some 2) : Option Int32).bind fun (x2 : Int32) => (X0_outline u 0 x2 : Option Nat).bind fun (r4 : Nat) => (X2_match u r1 r4 : Option Mem).bind fun (mu5 : Mem) => (X2_countStrangers mu5 : Option Int32).bind fun (r6 : Int32) => some (r6, mu5)))
set_option maxHeartbeats 4000000 in
set_option maxRecDepth 100000 in
theorem c_X8_tellDesk {l : Launch} {D : va_G} {A : Nat → Nat} {cI cZ cD : ClassId} {u u1 : Mem} {p1 : Int32} {r : Int32}  (hE : X8_tellDesk u p1 = some (r, u1)) : Ct l yX8_tellDesk cX8_tellDesk 2 (some .int) (rmOf 3 72) D (tyL cI cZ cD) [.ref (A 58), .int p1] (wX A cI cZ cD u) (some (.int r)) (wX A cI cZ cD u1) := by
  refine Ct.ofW (by decide +kernel) (fun p e s m below meth c hC hI => ?_)
  obtain ⟨hx, hb, hml, hown, hr, hlk, hG⟩ := hC
  have hown : s.vm.findClass RX8 = some m.cls := hown
  have hl := lv_entry ([.ref (A 58), .int p1] : List Value) (n := 2) (Nat.le_of_ble_eq_true rfl)
  rw [lg_entry_eq]
  generalize (lg_sl ([.ref (A 58), .int p1] : List Value) ++ List.replicate (2 - (lg_sl ([.ref (A 58), .int p1] : List Value)).length) Slot.unset).toArray = ls at hl ⊢
  have hl : lv_has ls 2 [(0, .ref (A 58)), (1, .int p1)] := hl
  unfold X8_tellDesk at hE
  refine lv_iload_n hx hb dX8_tellDesk_0 rfl (lv_at hl 1 rfl) ?_
  refine lv_if_ne (tgt := 12) hx hb dX8_tellDesk_1 (by decide) (fun c1 => ?_) (fun c1 => ?_)
  · rw [if_neg c1] at hE
    refine lv_iload_n hx hb dX8_tellDesk_12 rfl (lv_at hl 1 rfl) ?_
    refine lv_iconst (v := 1) hx hb dX8_tellDesk_13 (by decide) ?_
    refine lv_icmp_ne (tgt := 25) hx hb dX8_tellDesk_14 (by decide) (fun c14 => ?_) (fun c14 => ?_)
    · rw [if_neg c14] at hE
      refine lv_aload_n hx hb dX8_tellDesk_25 rfl (lv_at hl 0 rfl) ?_
      refine xg_get (C := RX8) (T := TX8) (M := 10) hx hb hown hG hI (by omega) eX_58 rfl inX8 5 (by decide) kf_X8_43 rfl dX8_tellDesk_26 ?_
      refine lv_aload_n hx hb dX8_tellDesk_29 rfl (lv_at hl 0 rfl) ?_
      refine xg_get (C := RX8) (T := TX8) (M := 10) hx hb hown hG hI (by omega) eX_58 rfl inX8 0 (by decide) kf_X8_12 rfl dX8_tellDesk_30 ?_
      refine lv_iconst (v := 0) hx hb dX8_tellDesk_33 (by decide) ?_
      obtain ⟨r1, hc, hE⟩ := bd1_some hE
      refine xc_V1 (rest := [.ref (A 73)]) (c_X0_outline (by omega) hc) mw_X0_outline km_X8_157 hx hb hml hown hG hI xA_of (wG_atE (by omega) (eX_D (d := 0) (by omega))) rfl rfl ⟨Nat.le_of_ble_eq_true rfl, Nat.le_of_ble_eq_true rfl⟩ rfl hl.1 rfl (Nat.le_of_ble_eq_true rfl) dX8_tellDesk_34 (fun H locs hI => ?_)
      have hr1 : r1 < 25 := lt_X0_outline (by omega) hc
      refine lv_aload_n hx hb dX8_tellDesk_37 rfl (lv_at hl 0 rfl) ?_
      refine xg_get (C := RX8) (T := TX8) (M := 10) hx hb hown hG hI (by omega) eX_58 rfl inX8 0 (by decide) kf_X8_12 rfl dX8_tellDesk_38 ?_
      refine lv_iload_n hx hb dX8_tellDesk_41 rfl (lv_at hl 1 rfl) ?_
      refine lv_iconst (v := 2) hx hb dX8_tellDesk_42 (by decide) ?_
      obtain ⟨x2, hZ, hE⟩ := bd1_some hE
      have hJ51_2 : ∀ (H : Heap) (locs : List Loc) (ls : Array Slot), xI D (va_A (wX A cI cZ cD u) s.heap.size) s.heap (wX A cI cZ cD u) H locs → lv_has ls 2 [(0, .ref (A 58))] → W p l e (rmOf 3 72) s m ([.ref (A 58), .int p1] : List Value).toArray below meth c H locs 0 0 (xQ D (tyL cI cZ cD) below ([.ref (A 58), .int p1] : List Value).toArray s (wX A cI cZ cD u) (some (.int r)) (wX A cI cZ cD u1)) (F0 m 51 ls [.int x2, .ref (A 50), .ref (A r1), .ref (A 73)]) := by
        intro H locs ls hI hl
        clear hZ
        obtain ⟨r4, hc, hE⟩ := bd1_some hE
        refine xc_V1 (rest := [.ref (A r1), .ref (A 73)]) (c_X0_outline (by omega) hc) mw_X0_outline km_X8_157 hx hb hml hown hG hI xA_of (wG_atE (by omega) (eX_D (d := 0) (by omega))) rfl rfl ⟨Nat.le_of_ble_eq_true rfl, Nat.le_of_ble_eq_true rfl⟩ rfl hl.1 rfl (Nat.le_of_ble_eq_true rfl) dX8_tellDesk_51 (fun H locs hI => ?_)
        have hr4 : r4 < 25 := lt_X0_outline (by omega) hc
        obtain ⟨mu5, hc, hE⟩ := bd1_some hE
        refine xc_V0 (rest := []) (c_X2_match (by omega) (by omega) hc) mw_X2_match km_X8_165 hx hb hml hown hG hI xA_of (wG_atE (by omega) eX_73) rfl rfl ⟨Nat.le_of_ble_eq_true rfl, Nat.le_of_ble_eq_true rfl⟩ rfl hl.1 rfl (Nat.le_of_ble_eq_true rfl) dX8_tellDesk_54 (fun H locs hI => ?_)
        refine lv_aload_n hx hb dX8_tellDesk_57 rfl (lv_at hl 0 rfl) ?_
        refine xg_get (C := RX8) (T := TX8) (M := 10) hx hb hown hG hI (by omega) eX_58 rfl inX8 5 (by decide) kf_X8_43 rfl dX8_tellDesk_58 ?_
        obtain ⟨r6, hc, hE⟩ := bd1_some hE
        refine xc_V1 (rest := []) (c_X2_countStrangers hc) mw_X2_countStrangers km_X8_235 hx hb hml hown hG hI xA_of (wG_atE (by omega) eX_73) rfl rfl ⟨Nat.le_of_ble_eq_true rfl, Nat.le_of_ble_eq_true rfl⟩ rfl hl.1 rfl (Nat.le_of_ble_eq_true rfl) dX8_tellDesk_61 (fun H locs hI => ?_)
        obtain ⟨rfl, rfl⟩ := sm2 hE
        exact xr_i hx hb hr hlk hG hI dX8_tellDesk_64
      replace hE := hZ
      clear hZ
      refine lv_icmp_ne (tgt := 50) hx hb dX8_tellDesk_43 (by decide) (fun c43 => ?_) (fun c43 => ?_)
      · rw [if_neg c43] at hE
        refine lv_iconst (v := 2) hx hb dX8_tellDesk_50 (by decide) ?_
        obtain rfl := sm1 hE
        exact hJ51_2 _ _ _ hI (lv_sub hl [0] rfl)
      · rw [if_pos c43] at hE
        refine lv_iconst (v := 1) hx hb dX8_tellDesk_46 (by decide) ?_
        refine lv_goto (tgt := 51) hx hb dX8_tellDesk_47 (by decide) ?_
        obtain rfl := sm1 hE
        exact hJ51_2 _ _ _ hI (lv_sub hl [0] rfl)
    · rw [if_pos c14] at hE
      refine lv_aload_n hx hb dX8_tellDesk_17 rfl (lv_at hl 0 rfl) ?_
      refine xg_get (C := RX8) (T := TX8) (M := 10) hx hb hown hG hI (by omega) eX_58 rfl inX8 0 (by decide) kf_X8_12 rfl dX8_tellDesk_18 ?_
      refine xg_getN (C := RX0) (T := TX0) (M := 5) hx hb hown hG hI (by omega) (eX_D (d := 0) (by omega)) rfl inX0 4 (by decide) kf_X8_232 rfl dX8_tellDesk_21 ?_
      obtain ⟨rfl, rfl⟩ := sm2 hE
      exact xr_i hx hb hr hlk hG hI dX8_tellDesk_24
  · rw [if_pos c1] at hE
    refine lv_aload_n hx hb dX8_tellDesk_4 rfl (lv_at hl 0 rfl) ?_
    refine xg_get (C := RX8) (T := TX8) (M := 10) hx hb hown hG hI (by omega) eX_58 rfl inX8 0 (by decide) kf_X8_12 rfl dX8_tellDesk_5 ?_
    refine xg_getN (C := RX0) (T := TX0) (M := 5) hx hb hown hG hI (by omega) (eX_D (d := 0) (by omega)) rfl inX0 3 (by decide) kf_X8_229 rfl dX8_tellDesk_8 ?_
    obtain ⟨rfl, rfl⟩ := sm2 hE
    exact xr_i hx hb hr hlk hG hI dX8_tellDesk_11
def X8_told (u : Mem) (p1 : Int32) : Option (Int32 × Mem) :=
  (if p1 < 0 then bd2 (X8_refuse u (-2)) fun (r1 : Int32) (mu2 : Mem) => some (r1, mu2) else (if p1 ≤ 3 then bd2 (X8_tellDesk u p1) fun (r3 : Int32) (mu4 : Mem) => some (r3, mu4) else bd2 (X8_refuse u (-2)) fun (r5 : Int32) (mu6 : Mem) => some (r5, mu6)))
set_option maxHeartbeats 4000000 in
set_option maxRecDepth 100000 in
theorem c_X8_told {l : Launch} {D : va_G} {A : Nat → Nat} {cI cZ cD : ClassId} {u u1 : Mem} {p1 : Int32} {r : Int32}  (hE : X8_told u p1 = some (r, u1)) : Ct l yX8_told cX8_told 2 (some .int) (rmOf 4 93) D (tyL cI cZ cD) [.ref (A 58), .int p1] (wX A cI cZ cD u) (some (.int r)) (wX A cI cZ cD u1) := by
  refine Ct.ofW (by decide +kernel) (fun p e s m below meth c hC hI => ?_)
  obtain ⟨hx, hb, hml, hown, hr, hlk, hG⟩ := hC
  have hown : s.vm.findClass RX8 = some m.cls := hown
  have hl := lv_entry ([.ref (A 58), .int p1] : List Value) (n := 2) (Nat.le_of_ble_eq_true rfl)
  rw [lg_entry_eq]
  generalize (lg_sl ([.ref (A 58), .int p1] : List Value) ++ List.replicate (2 - (lg_sl ([.ref (A 58), .int p1] : List Value)).length) Slot.unset).toArray = ls at hl ⊢
  have hl : lv_has ls 2 [(0, .ref (A 58)), (1, .int p1)] := hl
  unfold X8_told at hE
  refine lv_iload_n hx hb dX8_told_0 rfl (lv_at hl 1 rfl) ?_
  refine lv_if_lt (tgt := 9) hx hb dX8_told_1 (by decide) (fun c1 => ?_) (fun c1 => ?_)
  · rw [if_pos c1] at hE
    refine lv_aload_n hx hb dX8_told_9 rfl (lv_at hl 0 rfl) ?_
    refine lv_bipush (v := (-2)) hx hb dX8_told_10 (by decide) ?_
    obtain ⟨r1, mu2, hc, hE⟩ := bd2_some hE
    refine xc_V1 (rest := []) (c_X8_refuse hc) mw_X8_refuse km_X8_109 hx hb hml hown hG hI xA_of (wG_atE (by omega) eX_58) rfl rfl ⟨Nat.le_of_ble_eq_true rfl, Nat.le_of_ble_eq_true rfl⟩ rfl hl.1 rfl (Nat.le_of_ble_eq_true rfl) dX8_told_12 (fun H locs hI => ?_)
    obtain ⟨rfl, rfl⟩ := sm2 hE
    exact xr_i hx hb hr hlk hG hI dX8_told_15
  · rw [if_neg c1] at hE
    refine lv_iload_n hx hb dX8_told_4 rfl (lv_at hl 1 rfl) ?_
    refine lv_iconst (v := 3) hx hb dX8_told_5 (by decide) ?_
    refine lv_icmp_le (tgt := 16) hx hb dX8_told_6 (by decide) (fun c6 => ?_) (fun c6 => ?_)
    · rw [if_pos c6] at hE
      refine lv_aload_n hx hb dX8_told_16 rfl (lv_at hl 0 rfl) ?_
      refine lv_iload_n hx hb dX8_told_17 rfl (lv_at hl 1 rfl) ?_
      obtain ⟨r3, mu4, hc, hE⟩ := bd2_some hE
      refine xc_V1 (rest := []) (c_X8_tellDesk hc) mw_X8_tellDesk km_X8_171 hx hb hml hown hG hI xA_of (wG_atE (by omega) eX_58) rfl rfl ⟨Nat.le_of_ble_eq_true rfl, Nat.le_of_ble_eq_true rfl⟩ rfl hl.1 rfl (Nat.le_of_ble_eq_true rfl) dX8_told_18 (fun H locs hI => ?_)
      obtain ⟨rfl, rfl⟩ := sm2 hE
      exact xr_i hx hb hr hlk hG hI dX8_told_21
    · rw [if_neg c6] at hE
      refine lv_aload_n hx hb dX8_told_9 rfl (lv_at hl 0 rfl) ?_
      refine lv_bipush (v := (-2)) hx hb dX8_told_10 (by decide) ?_
      obtain ⟨r5, mu6, hc, hE⟩ := bd2_some hE
      refine xc_V1 (rest := []) (c_X8_refuse hc) mw_X8_refuse km_X8_109 hx hb hml hown hG hI xA_of (wG_atE (by omega) eX_58) rfl rfl ⟨Nat.le_of_ble_eq_true rfl, Nat.le_of_ble_eq_true rfl⟩ rfl hl.1 rfl (Nat.le_of_ble_eq_true rfl) dX8_told_12 (fun H locs hI => ?_)
      obtain ⟨rfl, rfl⟩ := sm2 hE
      exact xr_i hx hb hr hlk hG hI dX8_told_15
def X8_type (u : Mem) (p1 : Int32) : Option (Int32 × Mem) :=
  (if p1 < 0 then bd2 (X8_refuse u (-2)) fun (r1 : Int32) (mu2 : Mem) => some (r1, mu2) else (if p1 < 128 then bd2 (X7_append u p1) fun (r3 : Bool) (mu4 : Mem) => (if (b2i r3) = 0 then bd2 (X8_refuse mu4 (-4)) fun (r5 : Int32) (mu6 : Mem) => some (r5, mu6) else some (mu4 77 2, mu4)) else bd2 (X8_refuse u (-2)) fun (r7 : Int32) (mu8 : Mem) => some (r7, mu8)))
set_option maxHeartbeats 4000000 in
set_option maxRecDepth 100000 in
theorem c_X8_type {l : Launch} {D : va_G} {A : Nat → Nat} {cI cZ cD : ClassId} {u u1 : Mem} {p1 : Int32} {r : Int32}  (hE : X8_type u p1 = some (r, u1)) : Ct l yX8_type cX8_type 2 (some .int) (rmOf 1 21) D (tyL cI cZ cD) [.ref (A 58), .int p1] (wX A cI cZ cD u) (some (.int r)) (wX A cI cZ cD u1) := by
  refine Ct.ofW (by decide +kernel) (fun p e s m below meth c hC hI => ?_)
  obtain ⟨hx, hb, hml, hown, hr, hlk, hG⟩ := hC
  have hown : s.vm.findClass RX8 = some m.cls := hown
  have hl := lv_entry ([.ref (A 58), .int p1] : List Value) (n := 2) (Nat.le_of_ble_eq_true rfl)
  rw [lg_entry_eq]
  generalize (lg_sl ([.ref (A 58), .int p1] : List Value) ++ List.replicate (2 - (lg_sl ([.ref (A 58), .int p1] : List Value)).length) Slot.unset).toArray = ls at hl ⊢
  have hl : lv_has ls 2 [(0, .ref (A 58)), (1, .int p1)] := hl
  unfold X8_type at hE
  refine lv_iload_n hx hb dX8_type_0 rfl (lv_at hl 1 rfl) ?_
  refine lv_if_lt (tgt := 11) hx hb dX8_type_1 (by decide) (fun c1 => ?_) (fun c1 => ?_)
  · rw [if_pos c1] at hE
    refine lv_aload_n hx hb dX8_type_11 rfl (lv_at hl 0 rfl) ?_
    refine lv_bipush (v := (-2)) hx hb dX8_type_12 (by decide) ?_
    obtain ⟨r1, mu2, hc, hE⟩ := bd2_some hE
    refine xc_V1 (rest := []) (c_X8_refuse hc) mw_X8_refuse km_X8_109 hx hb hml hown hG hI xA_of (wG_atE (by omega) eX_58) rfl rfl ⟨Nat.le_of_ble_eq_true rfl, Nat.le_of_ble_eq_true rfl⟩ rfl hl.1 rfl (Nat.le_of_ble_eq_true rfl) dX8_type_14 (fun H locs hI => ?_)
    obtain ⟨rfl, rfl⟩ := sm2 hE
    exact xr_i hx hb hr hlk hG hI dX8_type_17
  · rw [if_neg c1] at hE
    refine lv_iload_n hx hb dX8_type_4 rfl (lv_at hl 1 rfl) ?_
    refine lv_sipush (v := 128) hx hb dX8_type_5 (by decide) ?_
    refine lv_icmp_lt (tgt := 18) hx hb dX8_type_8 (by decide) (fun c8 => ?_) (fun c8 => ?_)
    · rw [if_pos c8] at hE
      refine lv_aload_n hx hb dX8_type_18 rfl (lv_at hl 0 rfl) ?_
      refine xg_get (C := RX8) (T := TX8) (M := 10) hx hb hown hG hI (by omega) eX_58 rfl inX8 6 (by decide) kf_X8_50 rfl dX8_type_19 ?_
      refine lv_iload_n hx hb dX8_type_22 rfl (lv_at hl 1 rfl) ?_
      obtain ⟨r3, mu4, hc, hE⟩ := bd2_some hE
      refine xc_V1 (rest := []) (c_X7_append hc) mw_X7_append km_X8_174 hx hb hml hown hG hI xA_of (wG_atE (by omega) eX_77) rfl rfl ⟨Nat.le_of_ble_eq_true rfl, Nat.le_of_ble_eq_true rfl⟩ rfl hl.1 rfl (Nat.le_of_ble_eq_true rfl) dX8_type_23 (fun H locs hI => ?_)
      refine lv_if_eq (tgt := 39) hx hb dX8_type_26 (by decide) (fun c26 => ?_) (fun c26 => ?_)
      · rw [if_pos c26] at hE
        refine lv_aload_n hx hb dX8_type_39 rfl (lv_at hl 0 rfl) ?_
        refine lv_bipush (v := (-4)) hx hb dX8_type_40 (by decide) ?_
        obtain ⟨r5, mu6, hc, hE⟩ := bd2_some hE
        refine xc_V1 (rest := []) (c_X8_refuse hc) mw_X8_refuse km_X8_109 hx hb hml hown hG hI xA_of (wG_atE (by omega) eX_58) rfl rfl ⟨Nat.le_of_ble_eq_true rfl, Nat.le_of_ble_eq_true rfl⟩ rfl hl.1 rfl (Nat.le_of_ble_eq_true rfl) dX8_type_42 (fun H locs hI => ?_)
        obtain ⟨rfl, rfl⟩ := sm2 hE
        exact xr_i hx hb hr hlk hG hI dX8_type_45
      · rw [if_neg c26] at hE
        refine lv_aload_n hx hb dX8_type_29 rfl (lv_at hl 0 rfl) ?_
        refine xg_get (C := RX8) (T := TX8) (M := 10) hx hb hown hG hI (by omega) eX_58 rfl inX8 6 (by decide) kf_X8_50 rfl dX8_type_30 ?_
        refine xg_getN (C := RX7) (T := TX7) (M := 8) hx hb hown hG hI (by omega) eX_77 rfl inX7 2 (by decide) kf_X8_177 rfl dX8_type_33 ?_
        refine lv_goto (tgt := 45) hx hb dX8_type_36 (by decide) ?_
        obtain ⟨rfl, rfl⟩ := sm2 hE
        exact xr_i hx hb hr hlk hG hI dX8_type_45
    · rw [if_neg c8] at hE
      refine lv_aload_n hx hb dX8_type_11 rfl (lv_at hl 0 rfl) ?_
      refine lv_bipush (v := (-2)) hx hb dX8_type_12 (by decide) ?_
      obtain ⟨r7, mu8, hc, hE⟩ := bd2_some hE
      refine xc_V1 (rest := []) (c_X8_refuse hc) mw_X8_refuse km_X8_109 hx hb hml hown hG hI xA_of (wG_atE (by omega) eX_58) rfl rfl ⟨Nat.le_of_ble_eq_true rfl, Nat.le_of_ble_eq_true rfl⟩ rfl hl.1 rfl (Nat.le_of_ble_eq_true rfl) dX8_type_14 (fun H locs hI => ?_)
      obtain ⟨rfl, rfl⟩ := sm2 hE
      exact xr_i hx hb hr hlk hG hI dX8_type_17
def X8_clear (u : Mem) : Option (Int32 × Mem) :=
  bd2 (X7_wipe u) fun (r1 : Int32) (mu2 : Mem) => some (r1, mu2)
set_option maxHeartbeats 4000000 in
set_option maxRecDepth 100000 in
theorem c_X8_clear {l : Launch} {D : va_G} {A : Nat → Nat} {cI cZ cD : ClassId} {u u1 : Mem} {r : Int32}  (hE : X8_clear u = some (r, u1)) : Ct l yX8_clear cX8_clear 1 (some .int) (rmOf 1 21) D (tyL cI cZ cD) [.ref (A 58)] (wX A cI cZ cD u) (some (.int r)) (wX A cI cZ cD u1) := by
  refine Ct.ofW (by decide +kernel) (fun p e s m below meth c hC hI => ?_)
  obtain ⟨hx, hb, hml, hown, hr, hlk, hG⟩ := hC
  have hown : s.vm.findClass RX8 = some m.cls := hown
  have hl := lv_entry ([.ref (A 58)] : List Value) (n := 1) (Nat.le_of_ble_eq_true rfl)
  rw [lg_entry_eq]
  generalize (lg_sl ([.ref (A 58)] : List Value) ++ List.replicate (1 - (lg_sl ([.ref (A 58)] : List Value)).length) Slot.unset).toArray = ls at hl ⊢
  have hl : lv_has ls 1 [(0, .ref (A 58))] := hl
  unfold X8_clear at hE
  refine lv_aload_n hx hb dX8_clear_0 rfl (lv_at hl 0 rfl) ?_
  refine xg_get (C := RX8) (T := TX8) (M := 10) hx hb hown hG hI (by omega) eX_58 rfl inX8 6 (by decide) kf_X8_50 rfl dX8_clear_1 ?_
  obtain ⟨r1, mu2, hc, hE⟩ := bd2_some hE
  refine xc_V1 (rest := []) (c_X7_wipe hc) mw_X7_wipe km_X8_180 hx hb hml hown hG hI xA_of (wG_atE (by omega) eX_77) rfl rfl ⟨Nat.le_of_ble_eq_true rfl, Nat.le_of_ble_eq_true rfl⟩ rfl hl.1 rfl (Nat.le_of_ble_eq_true rfl) dX8_clear_4 (fun H locs hI => ?_)
  obtain ⟨rfl, rfl⟩ := sm2 hE
  exact xr_i hx hb hr hlk hG hI dX8_clear_7
def X8_perform (u : Mem) (p1 : Int32) : Option (Int32 × Mem) :=
  (X7_cell u p1 1 : Option Int32).bind fun (r1 : Int32) => (X7_cell u p1 2 : Option Int32).bind fun (r2 : Int32) => (X7_cell u p1 3 : Option Int32).bind fun (r3 : Int32) => (X7_cell u p1 4 : Option Int32).bind fun (r4 : Int32) => (X7_cell u p1 0 : Option Int32).bind fun (r5 : Int32) => (if r5 = 97 then (X7_cell u p1 5 : Option Int32).bind fun (r6 : Int32) => bd2 (X0_add u 0 r1 r2 r3 r4 r6) fun (r7 : Int32) (mu8 : Mem) => some (r7, mu8) else (if r5 = 100 then bd2 (X0_delete u 0 r1 r2) fun (r9 : Int32) (mu10 : Mem) => some (r9, mu10) else (if r5 = 101 then bd2 (X0_retell u 0 r1 r2 3 r3) fun (r11 : Int32) (mu12 : Mem) => some (r11, mu12) else (if r5 = 102 then bd2 (X0_fork u 0) fun (r13 : Int32) (mu14 : Mem) => some (r13, mu14) else (if r5 = 109 then bd2 (X0_move u 0 r1 r2 r3 r4) fun (r15 : Int32) (mu16 : Mem) => some (r15, mu16) else (if r5 = 114 then bd2 (X0_retell u 0 r1 r2 2 r3) fun (r17 : Int32) (mu18 : Mem) => some (r17, mu18) else bd2 (X0_prefer u 0 r1) fun (r19 : Int32) (mu20 : Mem) => some (r19, mu20)))))))
set_option maxHeartbeats 4000000 in
set_option maxRecDepth 100000 in
theorem c_X8_perform {l : Launch} {D : va_G} {A : Nat → Nat} {cI cZ cD : ClassId} {u u1 : Mem} {p1 : Int32} {r : Int32}  (hE : X8_perform u p1 = some (r, u1)) : Ct l yX8_perform cX8_perform 6 (some .int) (rmOf 5 115) D (tyL cI cZ cD) [.ref (A 58), .int p1] (wX A cI cZ cD u) (some (.int r)) (wX A cI cZ cD u1) := by
  refine Ct.ofW (by decide +kernel) (fun p e s m below meth c hC hI => ?_)
  obtain ⟨hx, hb, hml, hown, hr, hlk, hG⟩ := hC
  have hown : s.vm.findClass RX8 = some m.cls := hown
  have hl := lv_entry ([.ref (A 58), .int p1] : List Value) (n := 6) (Nat.le_of_ble_eq_true rfl)
  rw [lg_entry_eq]
  generalize (lg_sl ([.ref (A 58), .int p1] : List Value) ++ List.replicate (6 - (lg_sl ([.ref (A 58), .int p1] : List Value)).length) Slot.unset).toArray = ls at hl ⊢
  have hl : lv_has ls 6 [(0, .ref (A 58)), (1, .int p1)] := hl
  unfold X8_perform at hE
  refine lv_aload_n hx hb dX8_perform_0 rfl (lv_at hl 0 rfl) ?_
  refine xg_get (C := RX8) (T := TX8) (M := 10) hx hb hown hG hI (by omega) eX_58 rfl inX8 6 (by decide) kf_X8_50 rfl dX8_perform_1 ?_
  refine lv_iload_n hx hb dX8_perform_4 rfl (lv_at hl 1 rfl) ?_
  refine lv_iconst (v := 1) hx hb dX8_perform_5 (by decide) ?_
  obtain ⟨r1, hc, hE⟩ := bd1_some hE
  refine xc_V1 (rest := []) (c_X7_cell hc) mw_X7_cell km_X8_226 hx hb hml hown hG hI xA_of (wG_atE (by omega) eX_77) rfl rfl ⟨Nat.le_of_ble_eq_true rfl, Nat.le_of_ble_eq_true rfl⟩ rfl hl.1 rfl (Nat.le_of_ble_eq_true rfl) dX8_perform_6 (fun H locs hI => ?_)
  refine lv_istore_n (lv' := [(2, .int r1), (0, .ref (A 58)), (1, .int p1)]) hx hb dX8_perform_9 rfl hl (by decide) rfl (fun ls hl => ?_)
  refine lv_aload_n hx hb dX8_perform_10 rfl (lv_at hl 1 rfl) ?_
  refine xg_get (C := RX8) (T := TX8) (M := 10) hx hb hown hG hI (by omega) eX_58 rfl inX8 6 (by decide) kf_X8_50 rfl dX8_perform_11 ?_
  refine lv_iload_n hx hb dX8_perform_14 rfl (lv_at hl 2 rfl) ?_
  refine lv_iconst (v := 2) hx hb dX8_perform_15 (by decide) ?_
  obtain ⟨r2, hc, hE⟩ := bd1_some hE
  refine xc_V1 (rest := []) (c_X7_cell hc) mw_X7_cell km_X8_226 hx hb hml hown hG hI xA_of (wG_atE (by omega) eX_77) rfl rfl ⟨Nat.le_of_ble_eq_true rfl, Nat.le_of_ble_eq_true rfl⟩ rfl hl.1 rfl (Nat.le_of_ble_eq_true rfl) dX8_perform_16 (fun H locs hI => ?_)
  refine lv_istore_n (lv' := [(3, .int r2), (2, .int r1), (0, .ref (A 58)), (1, .int p1)]) hx hb dX8_perform_19 rfl hl (by decide) rfl (fun ls hl => ?_)
  refine lv_aload_n hx hb dX8_perform_20 rfl (lv_at hl 2 rfl) ?_
  refine xg_get (C := RX8) (T := TX8) (M := 10) hx hb hown hG hI (by omega) eX_58 rfl inX8 6 (by decide) kf_X8_50 rfl dX8_perform_21 ?_
  refine lv_iload_n hx hb dX8_perform_24 rfl (lv_at hl 3 rfl) ?_
  refine lv_iconst (v := 3) hx hb dX8_perform_25 (by decide) ?_
  obtain ⟨r3, hc, hE⟩ := bd1_some hE
  refine xc_V1 (rest := []) (c_X7_cell hc) mw_X7_cell km_X8_226 hx hb hml hown hG hI xA_of (wG_atE (by omega) eX_77) rfl rfl ⟨Nat.le_of_ble_eq_true rfl, Nat.le_of_ble_eq_true rfl⟩ rfl hl.1 rfl (Nat.le_of_ble_eq_true rfl) dX8_perform_26 (fun H locs hI => ?_)
  refine lv_istore (lv' := [(4, .int r3), (3, .int r2), (2, .int r1), (0, .ref (A 58)), (1, .int p1)]) hx hb dX8_perform_29 hl (by decide) rfl (fun ls hl => ?_)
  refine lv_aload_n hx hb dX8_perform_31 rfl (lv_at hl 3 rfl) ?_
  refine xg_get (C := RX8) (T := TX8) (M := 10) hx hb hown hG hI (by omega) eX_58 rfl inX8 6 (by decide) kf_X8_50 rfl dX8_perform_32 ?_
  refine lv_iload_n hx hb dX8_perform_35 rfl (lv_at hl 4 rfl) ?_
  refine lv_iconst (v := 4) hx hb dX8_perform_36 (by decide) ?_
  obtain ⟨r4, hc, hE⟩ := bd1_some hE
  refine xc_V1 (rest := []) (c_X7_cell hc) mw_X7_cell km_X8_226 hx hb hml hown hG hI xA_of (wG_atE (by omega) eX_77) rfl rfl ⟨Nat.le_of_ble_eq_true rfl, Nat.le_of_ble_eq_true rfl⟩ rfl hl.1 rfl (Nat.le_of_ble_eq_true rfl) dX8_perform_37 (fun H locs hI => ?_)
  refine lv_istore (lv' := [(5, .int r4), (4, .int r3), (3, .int r2), (2, .int r1), (0, .ref (A 58)), (1, .int p1)]) hx hb dX8_perform_40 hl (by decide) rfl (fun ls hl => ?_)
  refine lv_aload_n hx hb dX8_perform_42 rfl (lv_at hl 4 rfl) ?_
  refine xg_get (C := RX8) (T := TX8) (M := 10) hx hb hown hG hI (by omega) eX_58 rfl inX8 6 (by decide) kf_X8_50 rfl dX8_perform_43 ?_
  refine lv_iload_n hx hb dX8_perform_46 rfl (lv_at hl 5 rfl) ?_
  refine lv_iconst (v := 0) hx hb dX8_perform_47 (by decide) ?_
  obtain ⟨r5, hc, hE⟩ := bd1_some hE
  refine xc_V1 (rest := []) (c_X7_cell hc) mw_X7_cell km_X8_226 hx hb hml hown hG hI xA_of (wG_atE (by omega) eX_77) rfl rfl ⟨Nat.le_of_ble_eq_true rfl, Nat.le_of_ble_eq_true rfl⟩ rfl hl.1 rfl (Nat.le_of_ble_eq_true rfl) dX8_perform_48 (fun H locs hI => ?_)
  by_cases k51_97 : r5 = 97
  · rw [if_pos k51_97] at hE
    refine lv_tableIn (tgt := 136) hx hb dX8_perform_51 (by rw [k51_97]; decide) (by rw [k51_97]; decide) (by rw [k51_97]; rfl) (by decide) ?_
    refine lv_aload_n hx hb dX8_perform_136 rfl (lv_at hl 4 rfl) ?_
    refine xg_get (C := RX8) (T := TX8) (M := 10) hx hb hown hG hI (by omega) eX_58 rfl inX8 0 (by decide) kf_X8_12 rfl dX8_perform_137 ?_
    refine lv_iload_n hx hb dX8_perform_140 rfl (lv_at hl 3 rfl) ?_
    refine lv_iload_n hx hb dX8_perform_141 rfl (lv_at hl 2 rfl) ?_
    refine lv_iload hx hb dX8_perform_142 (lv_at hl 1 rfl) ?_
    refine lv_iload hx hb dX8_perform_144 (lv_at hl 0 rfl) ?_
    refine lv_aload_n hx hb dX8_perform_146 rfl (lv_at hl 4 rfl) ?_
    refine xg_get (C := RX8) (T := TX8) (M := 10) hx hb hown hG hI (by omega) eX_58 rfl inX8 6 (by decide) kf_X8_50 rfl dX8_perform_147 ?_
    refine lv_iload_n hx hb dX8_perform_150 rfl (lv_at hl 5 rfl) ?_
    refine lv_iconst (v := 5) hx hb dX8_perform_151 (by decide) ?_
    obtain ⟨r6, hc, hE⟩ := bd1_some hE
    refine xc_V1 (rest := [.int r4, .int r3, .int r2, .int r1, .ref (A 50)]) (c_X7_cell hc) mw_X7_cell km_X8_226 hx hb hml hown hG hI xA_of (wG_atE (by omega) eX_77) rfl rfl ⟨Nat.le_of_ble_eq_true rfl, Nat.le_of_ble_eq_true rfl⟩ rfl hl.1 rfl (Nat.le_of_ble_eq_true rfl) dX8_perform_152 (fun H locs hI => ?_)
    obtain ⟨r7, mu8, hc, hE⟩ := bd2_some hE
    refine xc_V1 (rest := []) (c_X0_add (by omega) hc) mw_X0_add km_X8_68 hx hb hml hown hG hI xA_of (wG_atE (by omega) (eX_D (d := 0) (by omega))) rfl rfl ⟨Nat.le_of_ble_eq_true rfl, Nat.le_of_ble_eq_true rfl⟩ rfl hl.1 rfl (Nat.le_of_ble_eq_true rfl) dX8_perform_155 (fun H locs hI => ?_)
    obtain ⟨rfl, rfl⟩ := sm2 hE
    exact xr_i hx hb hr hlk hG hI dX8_perform_158
  · rw [if_neg k51_97] at hE
    by_cases k51_100 : r5 = 100
    · rw [if_pos k51_100] at hE
      refine lv_tableIn (tgt := 199) hx hb dX8_perform_51 (by rw [k51_100]; decide) (by rw [k51_100]; decide) (by rw [k51_100]; rfl) (by decide) ?_
      refine lv_aload_n hx hb dX8_perform_199 rfl (lv_at hl 4 rfl) ?_
      refine xg_get (C := RX8) (T := TX8) (M := 10) hx hb hown hG hI (by omega) eX_58 rfl inX8 0 (by decide) kf_X8_12 rfl dX8_perform_200 ?_
      refine lv_iload_n hx hb dX8_perform_203 rfl (lv_at hl 3 rfl) ?_
      refine lv_iload_n hx hb dX8_perform_204 rfl (lv_at hl 2 rfl) ?_
      obtain ⟨r9, mu10, hc, hE⟩ := bd2_some hE
      refine xc_V1 (rest := []) (c_X0_delete (by omega) hc) mw_X0_delete km_X8_83 hx hb hml hown hG hI xA_of (wG_atE (by omega) (eX_D (d := 0) (by omega))) rfl rfl ⟨Nat.le_of_ble_eq_true rfl, Nat.le_of_ble_eq_true rfl⟩ rfl hl.1 rfl (Nat.le_of_ble_eq_true rfl) dX8_perform_205 (fun H locs hI => ?_)
      obtain ⟨rfl, rfl⟩ := sm2 hE
      exact xr_i hx hb hr hlk hG hI dX8_perform_208
    · rw [if_neg k51_100] at hE
      by_cases k51_101 : r5 = 101
      · rw [if_pos k51_101] at hE
        refine lv_tableIn (tgt := 186) hx hb dX8_perform_51 (by rw [k51_101]; decide) (by rw [k51_101]; decide) (by rw [k51_101]; rfl) (by decide) ?_
        refine lv_aload_n hx hb dX8_perform_186 rfl (lv_at hl 4 rfl) ?_
        refine xg_get (C := RX8) (T := TX8) (M := 10) hx hb hown hG hI (by omega) eX_58 rfl inX8 0 (by decide) kf_X8_12 rfl dX8_perform_187 ?_
        refine lv_iload_n hx hb dX8_perform_190 rfl (lv_at hl 3 rfl) ?_
        refine lv_iload_n hx hb dX8_perform_191 rfl (lv_at hl 2 rfl) ?_
        refine lv_iconst (v := 3) hx hb dX8_perform_192 (by decide) ?_
        refine lv_iload hx hb dX8_perform_193 (lv_at hl 1 rfl) ?_
        obtain ⟨r11, mu12, hc, hE⟩ := bd2_some hE
        refine xc_V1 (rest := []) (c_X0_retell (by omega) hc) mw_X0_retell km_X8_80 hx hb hml hown hG hI xA_of (wG_atE (by omega) (eX_D (d := 0) (by omega))) rfl rfl ⟨Nat.le_of_ble_eq_true rfl, Nat.le_of_ble_eq_true rfl⟩ rfl hl.1 rfl (Nat.le_of_ble_eq_true rfl) dX8_perform_195 (fun H locs hI => ?_)
        obtain ⟨rfl, rfl⟩ := sm2 hE
        exact xr_i hx hb hr hlk hG hI dX8_perform_198
      · rw [if_neg k51_101] at hE
        by_cases k51_102 : r5 = 102
        · rw [if_pos k51_102] at hE
          refine lv_tableIn (tgt := 209) hx hb dX8_perform_51 (by rw [k51_102]; decide) (by rw [k51_102]; decide) (by rw [k51_102]; rfl) (by decide) ?_
          refine lv_aload_n hx hb dX8_perform_209 rfl (lv_at hl 4 rfl) ?_
          refine xg_get (C := RX8) (T := TX8) (M := 10) hx hb hown hG hI (by omega) eX_58 rfl inX8 0 (by decide) kf_X8_12 rfl dX8_perform_210 ?_
          obtain ⟨r13, mu14, hc, hE⟩ := bd2_some hE
          refine xc_V1 (rest := []) (c_X0_fork (by omega) hc) mw_X0_fork km_X8_87 hx hb hml hown hG hI xA_of (wG_atE (by omega) (eX_D (d := 0) (by omega))) rfl rfl ⟨Nat.le_of_ble_eq_true rfl, Nat.le_of_ble_eq_true rfl⟩ rfl hl.1 rfl (Nat.le_of_ble_eq_true rfl) dX8_perform_213 (fun H locs hI => ?_)
          obtain ⟨rfl, rfl⟩ := sm2 hE
          exact xr_i hx hb hr hlk hG hI dX8_perform_216
        · rw [if_neg k51_102] at hE
          by_cases k51_109 : r5 = 109
          · rw [if_pos k51_109] at hE
            refine lv_tableIn (tgt := 159) hx hb dX8_perform_51 (by rw [k51_109]; decide) (by rw [k51_109]; decide) (by rw [k51_109]; rfl) (by decide) ?_
            refine lv_aload_n hx hb dX8_perform_159 rfl (lv_at hl 4 rfl) ?_
            refine xg_get (C := RX8) (T := TX8) (M := 10) hx hb hown hG hI (by omega) eX_58 rfl inX8 0 (by decide) kf_X8_12 rfl dX8_perform_160 ?_
            refine lv_iload_n hx hb dX8_perform_163 rfl (lv_at hl 3 rfl) ?_
            refine lv_iload_n hx hb dX8_perform_164 rfl (lv_at hl 2 rfl) ?_
            refine lv_iload hx hb dX8_perform_165 (lv_at hl 1 rfl) ?_
            refine lv_iload hx hb dX8_perform_167 (lv_at hl 0 rfl) ?_
            obtain ⟨r15, mu16, hc, hE⟩ := bd2_some hE
            refine xc_V1 (rest := []) (c_X0_move (by omega) hc) mw_X0_move km_X8_76 hx hb hml hown hG hI xA_of (wG_atE (by omega) (eX_D (d := 0) (by omega))) rfl rfl ⟨Nat.le_of_ble_eq_true rfl, Nat.le_of_ble_eq_true rfl⟩ rfl hl.1 rfl (Nat.le_of_ble_eq_true rfl) dX8_perform_169 (fun H locs hI => ?_)
            obtain ⟨rfl, rfl⟩ := sm2 hE
            exact xr_i hx hb hr hlk hG hI dX8_perform_172
          · rw [if_neg k51_109] at hE
            by_cases k51_114 : r5 = 114
            · rw [if_pos k51_114] at hE
              refine lv_tableIn (tgt := 173) hx hb dX8_perform_51 (by rw [k51_114]; decide) (by rw [k51_114]; decide) (by rw [k51_114]; rfl) (by decide) ?_
              refine lv_aload_n hx hb dX8_perform_173 rfl (lv_at hl 4 rfl) ?_
              refine xg_get (C := RX8) (T := TX8) (M := 10) hx hb hown hG hI (by omega) eX_58 rfl inX8 0 (by decide) kf_X8_12 rfl dX8_perform_174 ?_
              refine lv_iload_n hx hb dX8_perform_177 rfl (lv_at hl 3 rfl) ?_
              refine lv_iload_n hx hb dX8_perform_178 rfl (lv_at hl 2 rfl) ?_
              refine lv_iconst (v := 2) hx hb dX8_perform_179 (by decide) ?_
              refine lv_iload hx hb dX8_perform_180 (lv_at hl 1 rfl) ?_
              obtain ⟨r17, mu18, hc, hE⟩ := bd2_some hE
              refine xc_V1 (rest := []) (c_X0_retell (by omega) hc) mw_X0_retell km_X8_80 hx hb hml hown hG hI xA_of (wG_atE (by omega) (eX_D (d := 0) (by omega))) rfl rfl ⟨Nat.le_of_ble_eq_true rfl, Nat.le_of_ble_eq_true rfl⟩ rfl hl.1 rfl (Nat.le_of_ble_eq_true rfl) dX8_perform_182 (fun H locs hI => ?_)
              obtain ⟨rfl, rfl⟩ := sm2 hE
              exact xr_i hx hb hr hlk hG hI dX8_perform_185
            · rw [if_neg k51_114] at hE
              refine xs_dflt (tgt := 217) hx hb dX8_perform_51 (fun j hj => match j, hj with | 0, _ => Or.inr (lv_neT k51_97 rfl) | 1, _ => Or.inl rfl | 2, _ => Or.inl rfl | 3, _ => Or.inr (lv_neT k51_100 rfl) | 4, _ => Or.inr (lv_neT k51_101 rfl) | 5, _ => Or.inr (lv_neT k51_102 rfl) | 6, _ => Or.inl rfl | 7, _ => Or.inl rfl | 8, _ => Or.inl rfl | 9, _ => Or.inl rfl | 10, _ => Or.inl rfl | 11, _ => Or.inl rfl | 12, _ => Or.inr (lv_neT k51_109 rfl) | 13, _ => Or.inl rfl | 14, _ => Or.inl rfl | 15, _ => Or.inl rfl | 16, _ => Or.inl rfl | 17, _ => Or.inr (lv_neT k51_114 rfl) | q + 18, hq => absurd hq (Nat.not_lt.mpr (Nat.le_add_left _ _))) (by decide) (by decide) ?_
              refine lv_aload_n hx hb dX8_perform_217 rfl (lv_at hl 4 rfl) ?_
              refine xg_get (C := RX8) (T := TX8) (M := 10) hx hb hown hG hI (by omega) eX_58 rfl inX8 0 (by decide) kf_X8_12 rfl dX8_perform_218 ?_
              refine lv_iload_n hx hb dX8_perform_221 rfl (lv_at hl 3 rfl) ?_
              obtain ⟨r19, mu20, hc, hE⟩ := bd2_some hE
              refine xc_V1 (rest := []) (c_X0_prefer (by omega) hc) mw_X0_prefer km_X8_91 hx hb hml hown hG hI xA_of (wG_atE (by omega) (eX_D (d := 0) (by omega))) rfl rfl ⟨Nat.le_of_ble_eq_true rfl, Nat.le_of_ble_eq_true rfl⟩ rfl hl.1 rfl (Nat.le_of_ble_eq_true rfl) dX8_perform_222 (fun H locs hI => ?_)
              obtain ⟨rfl, rfl⟩ := sm2 hE
              exact xr_i hx hb hr hlk hG hI dX8_perform_225
def X8_does_L31 : Nat → Int32 → Mem → Option (Int32 × Mem)
  | 0, _, _ => none
  | n31 + 1, x4, mu5 =>
    (if (mu5 77 3) ≤ x4 then bd2 (X8_settled mu5 (mu5 77 3)) fun (r6 : Int32) (mu7 : Mem) => some (r6, mu7) else (if 75 ≤ x4 then bd2 (X8_settled mu5 (mu5 77 3)) fun (r8 : Int32) (mu9 : Mem) => some (r8, mu9) else bd2 (X8_perform mu5 x4) fun (r10 : Int32) (mu11 : Mem) => (if 0 ≤ r10 then X8_does_L31 n31 (x4 + 1) mu11 else (X0_copyFrom mu11 0 1 : Option Mem).bind fun (mu12 : Mem) => some ((-1000) - x4, mu12))))
def X8_does (u : Mem) : Option (Int32 × Mem) :=
  bd2 (X7_read u) fun (r1 : Int32) (mu2 : Mem) => (if r1 = (-1) then (X0_copyFrom mu2 1 0 : Option Mem).bind fun (mu3 : Mem) => X8_does_L31 fu 0 mu3 else some ((-10) - r1, mu2))
set_option maxHeartbeats 4000000 in
set_option maxRecDepth 100000 in
theorem c_X8_does {l : Launch} {D : va_G} {A : Nat → Nat} {cI cZ cD : ClassId} {u u1 : Mem} {r : Int32}  (hE : X8_does u = some (r, u1)) : Ct l yX8_does cX8_does 3 (some .int) (rmOf 6 140) D (tyL cI cZ cD) [.ref (A 58)] (wX A cI cZ cD u) (some (.int r)) (wX A cI cZ cD u1) := by
  refine Ct.ofW (by decide +kernel) (fun p e s m below meth c hC hI => ?_)
  obtain ⟨hx, hb, hml, hown, hr, hlk, hG⟩ := hC
  have hown : s.vm.findClass RX8 = some m.cls := hown
  have hl := lv_entry ([.ref (A 58)] : List Value) (n := 3) (Nat.le_of_ble_eq_true rfl)
  rw [lg_entry_eq]
  generalize (lg_sl ([.ref (A 58)] : List Value) ++ List.replicate (3 - (lg_sl ([.ref (A 58)] : List Value)).length) Slot.unset).toArray = ls at hl ⊢
  have hl : lv_has ls 3 [(0, .ref (A 58))] := hl
  unfold X8_does at hE
  refine lv_aload_n hx hb dX8_does_0 rfl (lv_at hl 0 rfl) ?_
  refine xg_get (C := RX8) (T := TX8) (M := 10) hx hb hown hG hI (by omega) eX_58 rfl inX8 6 (by decide) kf_X8_50 rfl dX8_does_1 ?_
  obtain ⟨r1, mu2, hc, hE⟩ := bd2_some hE
  refine xc_V1 (rest := []) (c_X7_read hc) mw_X7_read km_X8_183 hx hb hml hown hG hI xA_of (wG_atE (by omega) eX_77) rfl rfl ⟨Nat.le_of_ble_eq_true rfl, Nat.le_of_ble_eq_true rfl⟩ rfl hl.1 rfl (Nat.le_of_ble_eq_true rfl) dX8_does_4 (fun H locs hI => ?_)
  refine lv_istore_n (lv' := [(1, .int r1), (0, .ref (A 58))]) hx hb dX8_does_7 rfl hl (by decide) rfl (fun ls hl => ?_)
  refine lv_iload_n hx hb dX8_does_8 rfl (lv_at hl 0 rfl) ?_
  refine lv_iconst (v := (-1)) hx hb dX8_does_9 (by decide) ?_
  refine lv_icmp_eq (tgt := 18) hx hb dX8_does_10 (by decide) (fun c10 => ?_) (fun c10 => ?_)
  · rw [if_pos c10] at hE
    refine lv_aload_n hx hb dX8_does_18 rfl (lv_at hl 1 rfl) ?_
    refine xg_get (C := RX8) (T := TX8) (M := 10) hx hb hown hG hI (by omega) eX_58 rfl inX8 1 (by decide) kf_X8_16 rfl dX8_does_19 ?_
    refine lv_aload_n hx hb dX8_does_22 rfl (lv_at hl 1 rfl) ?_
    refine xg_get (C := RX8) (T := TX8) (M := 10) hx hb hown hG hI (by omega) eX_58 rfl inX8 0 (by decide) kf_X8_12 rfl dX8_does_23 ?_
    obtain ⟨mu3, hc, hE⟩ := bd1_some hE
    refine xc_V0 (rest := []) (c_X0_copyFrom (by omega) (by omega) hc) mw_X0_copyFrom km_X8_64 hx hb hml hown hG hI xA_of (wG_atE (by omega) (eX_D (d := 1) (by omega))) rfl rfl ⟨Nat.le_of_ble_eq_true rfl, Nat.le_of_ble_eq_true rfl⟩ rfl hl.1 rfl (Nat.le_of_ble_eq_true rfl) dX8_does_26 (fun H locs hI => ?_)
    refine lv_iconst (v := 0) hx hb dX8_does_29 (by decide) ?_
    refine lv_istore_n (lv' := [(2, .int 0), (1, .int r1), (0, .ref (A 58))]) hx hb dX8_does_30 rfl hl (by decide) rfl (fun ls hl => ?_)
    have hL31 : ∀ (n31 : Nat) (x4 : Int32) (mu5 : Mem) (H : Heap) (locs : List Loc) (ls : Array Slot), X8_does_L31 n31 x4 mu5 = some (r, u1) → xI D (va_A (wX A cI cZ cD u) s.heap.size) s.heap (wX A cI cZ cD mu5) H locs → lv_has ls 3 [(0, .ref (A 58)), (2, .int x4)] → W p l e (rmOf 6 140) s m ([.ref (A 58)] : List Value).toArray below meth c H locs 0 0 (xQ D (tyL cI cZ cD) below ([.ref (A 58)] : List Value).toArray s (wX A cI cZ cD u) (some (.int r)) (wX A cI cZ cD u1)) (F0 m 31 ls []) := by
      intro n31
      induction n31 with
      | zero =>
        intro x4 mu5 H locs ls hE
        exact absurd hE (by simp [X8_does_L31])
      | succ n31 ih31 =>
        intro x4 mu5 H locs ls hE hI hl
        rw [X8_does_L31] at hE
        refine lv_iload_n hx hb dX8_does_31 rfl (lv_at hl 1 rfl) ?_
        refine lv_aload_n hx hb dX8_does_32 rfl (lv_at hl 0 rfl) ?_
        refine xg_get (C := RX8) (T := TX8) (M := 10) hx hb hown hG hI (by omega) eX_58 rfl inX8 6 (by decide) kf_X8_50 rfl dX8_does_33 ?_
        refine xg_getN (C := RX7) (T := TX7) (M := 8) hx hb hown hG hI (by omega) eX_77 rfl inX7 3 (by decide) kf_X8_186 rfl dX8_does_36 ?_
        refine lv_icmp_ge (tgt := 79) hx hb dX8_does_39 (by decide) (fun c39 => ?_) (fun c39 => ?_)
        · rw [if_pos c39] at hE
          refine lv_aload_n hx hb dX8_does_79 rfl (lv_at hl 0 rfl) ?_
          refine lv_aload_n hx hb dX8_does_80 rfl (lv_at hl 0 rfl) ?_
          refine xg_get (C := RX8) (T := TX8) (M := 10) hx hb hown hG hI (by omega) eX_58 rfl inX8 6 (by decide) kf_X8_50 rfl dX8_does_81 ?_
          refine xg_getN (C := RX7) (T := TX7) (M := 8) hx hb hown hG hI (by omega) eX_77 rfl inX7 3 (by decide) kf_X8_186 rfl dX8_does_84 ?_
          obtain ⟨r6, mu7, hc, hE⟩ := bd2_some hE
          refine xc_V1 (rest := []) (c_X8_settled hc) mw_X8_settled km_X8_72 hx hb hml hown hG hI xA_of (wG_atE (by omega) eX_58) rfl rfl ⟨Nat.le_of_ble_eq_true rfl, Nat.le_of_ble_eq_true rfl⟩ rfl hl.1 rfl (Nat.le_of_ble_eq_true rfl) dX8_does_87 (fun H locs hI => ?_)
          obtain ⟨rfl, rfl⟩ := sm2 hE
          exact xr_i hx hb hr hlk hG hI dX8_does_90
        · rw [if_neg c39] at hE
          refine lv_iload_n hx hb dX8_does_42 rfl (lv_at hl 1 rfl) ?_
          refine lv_bipush (v := 75) hx hb dX8_does_43 (by decide) ?_
          refine lv_icmp_ge (tgt := 79) hx hb dX8_does_45 (by decide) (fun c45 => ?_) (fun c45 => ?_)
          · rw [if_pos c45] at hE
            refine lv_aload_n hx hb dX8_does_79 rfl (lv_at hl 0 rfl) ?_
            refine lv_aload_n hx hb dX8_does_80 rfl (lv_at hl 0 rfl) ?_
            refine xg_get (C := RX8) (T := TX8) (M := 10) hx hb hown hG hI (by omega) eX_58 rfl inX8 6 (by decide) kf_X8_50 rfl dX8_does_81 ?_
            refine xg_getN (C := RX7) (T := TX7) (M := 8) hx hb hown hG hI (by omega) eX_77 rfl inX7 3 (by decide) kf_X8_186 rfl dX8_does_84 ?_
            obtain ⟨r8, mu9, hc, hE⟩ := bd2_some hE
            refine xc_V1 (rest := []) (c_X8_settled hc) mw_X8_settled km_X8_72 hx hb hml hown hG hI xA_of (wG_atE (by omega) eX_58) rfl rfl ⟨Nat.le_of_ble_eq_true rfl, Nat.le_of_ble_eq_true rfl⟩ rfl hl.1 rfl (Nat.le_of_ble_eq_true rfl) dX8_does_87 (fun H locs hI => ?_)
            obtain ⟨rfl, rfl⟩ := sm2 hE
            exact xr_i hx hb hr hlk hG hI dX8_does_90
          · rw [if_neg c45] at hE
            refine lv_aload_n hx hb dX8_does_48 rfl (lv_at hl 0 rfl) ?_
            refine lv_iload_n hx hb dX8_does_49 rfl (lv_at hl 1 rfl) ?_
            obtain ⟨r10, mu11, hc, hE⟩ := bd2_some hE
            refine xc_V1 (rest := []) (c_X8_perform hc) mw_X8_perform km_X8_189 hx hb hml hown hG hI xA_of (wG_atE (by omega) eX_58) rfl rfl ⟨Nat.le_of_ble_eq_true rfl, Nat.le_of_ble_eq_true rfl⟩ rfl hl.1 rfl (Nat.le_of_ble_eq_true rfl) dX8_does_50 (fun H locs hI => ?_)
            refine lv_if_ge (tgt := 73) hx hb dX8_does_53 (by decide) (fun c53 => ?_) (fun c53 => ?_)
            · rw [if_pos c53] at hE
              refine lv_iinc (v := x4 + 1) (lv' := [(2, .int (x4 + 1)), (0, .ref (A 58))]) hx hb dX8_does_73 hl (k := 1) rfl rfl (by decide) rfl (fun ls hl => ?_)
              refine lv_goto (tgt := 31) hx hb dX8_does_76 (by decide) ?_
              exact ih31 _ _ _ _ _ hE hI (lv_sub hl [1, 0] rfl)
            · rw [if_neg c53] at hE
              refine lv_aload_n hx hb dX8_does_56 rfl (lv_at hl 0 rfl) ?_
              refine xg_get (C := RX8) (T := TX8) (M := 10) hx hb hown hG hI (by omega) eX_58 rfl inX8 0 (by decide) kf_X8_12 rfl dX8_does_57 ?_
              refine lv_aload_n hx hb dX8_does_60 rfl (lv_at hl 0 rfl) ?_
              refine xg_get (C := RX8) (T := TX8) (M := 10) hx hb hown hG hI (by omega) eX_58 rfl inX8 1 (by decide) kf_X8_16 rfl dX8_does_61 ?_
              obtain ⟨mu12, hc, hE⟩ := bd1_some hE
              refine xc_V0 (rest := []) (c_X0_copyFrom (by omega) (by omega) hc) mw_X0_copyFrom km_X8_64 hx hb hml hown hG hI xA_of (wG_atE (by omega) (eX_D (d := 0) (by omega))) rfl rfl ⟨Nat.le_of_ble_eq_true rfl, Nat.le_of_ble_eq_true rfl⟩ rfl hl.1 rfl (Nat.le_of_ble_eq_true rfl) dX8_does_64 (fun H locs hI => ?_)
              refine lv_sipush (v := (-1000)) hx hb dX8_does_67 (by decide) ?_
              refine lv_iload_n hx hb dX8_does_70 rfl (lv_at hl 1 rfl) ?_
              refine lv_isub hx hb dX8_does_71 ?_
              obtain ⟨rfl, rfl⟩ := sm2 hE
              exact xr_i hx hb hr hlk hG hI dX8_does_72
    exact hL31 _ _ _ _ _ _ hE hI (lv_sub hl [2, 0] rfl)
  · rw [if_neg c10] at hE
    refine lv_bipush (v := (-10)) hx hb dX8_does_13 (by decide) ?_
    refine lv_iload_n hx hb dX8_does_15 rfl (lv_at hl 0 rfl) ?_
    refine lv_isub hx hb dX8_does_16 ?_
    obtain ⟨rfl, rfl⟩ := sm2 hE
    exact xr_i hx hb hr hlk hG hI dX8_does_17
def X8_back (u : Mem) : Option (Int32 × Mem) :=
  (if (u 59 2) = 0 then bd2 (X8_refuse u (-3)) fun (r3 : Int32) (mu4 : Mem) => some (r3, mu4) else (X1_takeBack u 0 : Option Mem).bind fun (mu1 : Mem) => (stF mu1 61 5 1).bind fun mu2 => some (mu2 59 2, mu2))
set_option maxHeartbeats 4000000 in
set_option maxRecDepth 100000 in
theorem c_X8_back {l : Launch} {D : va_G} {A : Nat → Nat} {cI cZ cD : ClassId} {u u1 : Mem} {r : Int32}  (hE : X8_back u = some (r, u1)) : Ct l yX8_back cX8_back 1 (some .int) (rmOf 4 82) D (tyL cI cZ cD) [.ref (A 58)] (wX A cI cZ cD u) (some (.int r)) (wX A cI cZ cD u1) := by
  refine Ct.ofW (by decide +kernel) (fun p e s m below meth c hC hI => ?_)
  obtain ⟨hx, hb, hml, hown, hr, hlk, hG⟩ := hC
  have hown : s.vm.findClass RX8 = some m.cls := hown
  have hl := lv_entry ([.ref (A 58)] : List Value) (n := 1) (Nat.le_of_ble_eq_true rfl)
  rw [lg_entry_eq]
  generalize (lg_sl ([.ref (A 58)] : List Value) ++ List.replicate (1 - (lg_sl ([.ref (A 58)] : List Value)).length) Slot.unset).toArray = ls at hl ⊢
  have hl : lv_has ls 1 [(0, .ref (A 58))] := hl
  unfold X8_back at hE
  refine lv_aload_n hx hb dX8_back_0 rfl (lv_at hl 0 rfl) ?_
  refine xg_get (C := RX8) (T := TX8) (M := 10) hx hb hown hG hI (by omega) eX_58 rfl inX8 2 (by decide) kf_X8_22 rfl dX8_back_1 ?_
  refine xg_getN (C := RX1) (T := TX1) (M := 3) hx hb hown hG hI (by omega) eX_59 rfl inX1 2 (by decide) kf_X8_192 rfl dX8_back_4 ?_
  refine lv_if_ne (tgt := 17) hx hb dX8_back_7 (by decide) (fun c7 => ?_) (fun c7 => ?_)
  · rw [if_neg c7] at hE
    refine lv_aload_n hx hb dX8_back_17 rfl (lv_at hl 0 rfl) ?_
    refine xg_get (C := RX8) (T := TX8) (M := 10) hx hb hown hG hI (by omega) eX_58 rfl inX8 2 (by decide) kf_X8_22 rfl dX8_back_18 ?_
    refine lv_aload_n hx hb dX8_back_21 rfl (lv_at hl 0 rfl) ?_
    refine xg_get (C := RX8) (T := TX8) (M := 10) hx hb hown hG hI (by omega) eX_58 rfl inX8 0 (by decide) kf_X8_12 rfl dX8_back_22 ?_
    obtain ⟨mu1, hc, hE⟩ := bd1_some hE
    refine xc_V0 (rest := []) (c_X1_takeBack (by omega) hc) mw_X1_takeBack km_X8_194 hx hb hml hown hG hI xA_of (wG_atE (by omega) eX_59) rfl rfl ⟨Nat.le_of_ble_eq_true rfl, Nat.le_of_ble_eq_true rfl⟩ rfl hl.1 rfl (Nat.le_of_ble_eq_true rfl) dX8_back_25 (fun H locs hI => ?_)
    refine lv_aload_n hx hb dX8_back_28 rfl (lv_at hl 0 rfl) ?_
    refine xg_get (C := RX8) (T := TX8) (M := 10) hx hb hown hG hI (by omega) eX_58 rfl inX8 3 (by decide) kf_X8_29 rfl dX8_back_29 ?_
    refine lv_iconst (v := 1) hx hb dX8_back_32 (by decide) ?_
    obtain ⟨mu2, hu, hE⟩ := bd1_some hE
    refine xg_putN (C := RX3) (T := TX3) (M := 6) hx hb hown hG hI (by omega) eX_61 rfl inX3 tyX3 tyX3_ok nmX3 5 (by decide) kf_X8_197 rfl (ty := .boolean) (by decide +kernel) (by decide +kernel) (by decide +kernel) (Nat.le_of_ble_eq_true rfl) rfl hu dX8_back_33 (fun H locs hI => ?_)
    refine lv_aload_n hx hb dX8_back_36 rfl (lv_at hl 0 rfl) ?_
    refine xg_get (C := RX8) (T := TX8) (M := 10) hx hb hown hG hI (by omega) eX_58 rfl inX8 2 (by decide) kf_X8_22 rfl dX8_back_37 ?_
    refine xg_getN (C := RX1) (T := TX1) (M := 3) hx hb hown hG hI (by omega) eX_59 rfl inX1 2 (by decide) kf_X8_192 rfl dX8_back_40 ?_
    obtain ⟨rfl, rfl⟩ := sm2 hE
    exact xr_i hx hb hr hlk hG hI dX8_back_43
  · rw [if_pos c7] at hE
    refine lv_aload_n hx hb dX8_back_10 rfl (lv_at hl 0 rfl) ?_
    refine lv_bipush (v := (-3)) hx hb dX8_back_11 (by decide) ?_
    obtain ⟨r3, mu4, hc, hE⟩ := bd2_some hE
    refine xc_V1 (rest := []) (c_X8_refuse hc) mw_X8_refuse km_X8_109 hx hb hml hown hG hI xA_of (wG_atE (by omega) eX_58) rfl rfl ⟨Nat.le_of_ble_eq_true rfl, Nat.le_of_ble_eq_true rfl⟩ rfl hl.1 rfl (Nat.le_of_ble_eq_true rfl) dX8_back_13 (fun H locs hI => ?_)
    obtain ⟨rfl, rfl⟩ := sm2 hE
    exact xr_i hx hb hr hlk hG hI dX8_back_16
def X8_tellCount (u : Mem) (p1 : Int32) : Option (Int32) :=
  (if p1 = 0 then some (u 58 7) else (if p1 = 1 then some (u 58 8) else (if p1 = 2 then some (u 58 9) else (if p1 = 3 then some (u 77 2) else some (u 59 2)))))
set_option maxHeartbeats 4000000 in
set_option maxRecDepth 100000 in
theorem c_X8_tellCount {l : Launch} {D : va_G} {A : Nat → Nat} {cI cZ cD : ClassId} {u : Mem} {p1 : Int32} {r : Int32}  (hE : X8_tellCount u p1 = some (r)) : Ct l yX8_tellCount cX8_tellCount 2 (some .int) (rmOf 0 0) D (tyL cI cZ cD) [.ref (A 58), .int p1] (wX A cI cZ cD u) (some (.int r)) (wX A cI cZ cD u) := by
  refine Ct.ofW (by decide +kernel) (fun p e s m below meth c hC hI => ?_)
  obtain ⟨hx, hb, hml, hown, hr, hlk, hG⟩ := hC
  have hown : s.vm.findClass RX8 = some m.cls := hown
  have hl := lv_entry ([.ref (A 58), .int p1] : List Value) (n := 2) (Nat.le_of_ble_eq_true rfl)
  rw [lg_entry_eq]
  generalize (lg_sl ([.ref (A 58), .int p1] : List Value) ++ List.replicate (2 - (lg_sl ([.ref (A 58), .int p1] : List Value)).length) Slot.unset).toArray = ls at hl ⊢
  have hl : lv_has ls 2 [(0, .ref (A 58)), (1, .int p1)] := hl
  unfold X8_tellCount at hE
  refine lv_iload_n hx hb dX8_tellCount_0 rfl (lv_at hl 1 rfl) ?_
  by_cases k1_0 : p1 = 0
  · rw [if_pos k1_0] at hE
    refine lv_tableIn (tgt := 32) hx hb dX8_tellCount_1 (by rw [k1_0]; decide) (by rw [k1_0]; decide) (by rw [k1_0]; rfl) (by decide) ?_
    refine lv_aload_n hx hb dX8_tellCount_32 rfl (lv_at hl 0 rfl) ?_
    refine xg_get (C := RX8) (T := TX8) (M := 10) hx hb hown hG hI (by omega) eX_58 rfl inX8 7 (by decide) kf_X8_54 rfl dX8_tellCount_33 ?_
    obtain rfl := sm1 hE
    exact xr_i hx hb hr hlk hG hI dX8_tellCount_36
  · rw [if_neg k1_0] at hE
    by_cases k1_1 : p1 = 1
    · rw [if_pos k1_1] at hE
      refine lv_tableIn (tgt := 37) hx hb dX8_tellCount_1 (by rw [k1_1]; decide) (by rw [k1_1]; decide) (by rw [k1_1]; rfl) (by decide) ?_
      refine lv_aload_n hx hb dX8_tellCount_37 rfl (lv_at hl 0 rfl) ?_
      refine xg_get (C := RX8) (T := TX8) (M := 10) hx hb hown hG hI (by omega) eX_58 rfl inX8 8 (by decide) kf_X8_58 rfl dX8_tellCount_38 ?_
      obtain rfl := sm1 hE
      exact xr_i hx hb hr hlk hG hI dX8_tellCount_41
    · rw [if_neg k1_1] at hE
      by_cases k1_2 : p1 = 2
      · rw [if_pos k1_2] at hE
        refine lv_tableIn (tgt := 42) hx hb dX8_tellCount_1 (by rw [k1_2]; decide) (by rw [k1_2]; decide) (by rw [k1_2]; rfl) (by decide) ?_
        refine lv_aload_n hx hb dX8_tellCount_42 rfl (lv_at hl 0 rfl) ?_
        refine xg_get (C := RX8) (T := TX8) (M := 10) hx hb hown hG hI (by omega) eX_58 rfl inX8 9 (by decide) kf_X8_61 rfl dX8_tellCount_43 ?_
        obtain rfl := sm1 hE
        exact xr_i hx hb hr hlk hG hI dX8_tellCount_46
      · rw [if_neg k1_2] at hE
        by_cases k1_3 : p1 = 3
        · rw [if_pos k1_3] at hE
          refine lv_tableIn (tgt := 47) hx hb dX8_tellCount_1 (by rw [k1_3]; decide) (by rw [k1_3]; decide) (by rw [k1_3]; rfl) (by decide) ?_
          refine lv_aload_n hx hb dX8_tellCount_47 rfl (lv_at hl 0 rfl) ?_
          refine xg_get (C := RX8) (T := TX8) (M := 10) hx hb hown hG hI (by omega) eX_58 rfl inX8 6 (by decide) kf_X8_50 rfl dX8_tellCount_48 ?_
          refine xg_getN (C := RX7) (T := TX7) (M := 8) hx hb hown hG hI (by omega) eX_77 rfl inX7 2 (by decide) kf_X8_177 rfl dX8_tellCount_51 ?_
          obtain rfl := sm1 hE
          exact xr_i hx hb hr hlk hG hI dX8_tellCount_54
        · rw [if_neg k1_3] at hE
          refine xs_dflt (tgt := 55) hx hb dX8_tellCount_1 (fun j hj => match j, hj with | 0, _ => Or.inr (lv_neT k1_0 rfl) | 1, _ => Or.inr (lv_neT k1_1 rfl) | 2, _ => Or.inr (lv_neT k1_2 rfl) | 3, _ => Or.inr (lv_neT k1_3 rfl) | q + 4, hq => absurd hq (Nat.not_lt.mpr (Nat.le_add_left _ _))) (by decide) (by decide) ?_
          refine lv_aload_n hx hb dX8_tellCount_55 rfl (lv_at hl 0 rfl) ?_
          refine xg_get (C := RX8) (T := TX8) (M := 10) hx hb hown hG hI (by omega) eX_58 rfl inX8 2 (by decide) kf_X8_22 rfl dX8_tellCount_56 ?_
          refine xg_getN (C := RX1) (T := TX1) (M := 3) hx hb hown hG hI (by omega) eX_59 rfl inX1 2 (by decide) kf_X8_192 rfl dX8_tellCount_59 ?_
          obtain rfl := sm1 hE
          exact xr_i hx hb hr hlk hG hI dX8_tellCount_62
def X8_refused (u : Mem) (p1 : Int32) : Option (Int32 × Mem) :=
  (if p1 < 0 then bd2 (X8_refuse u (-2)) fun (r1 : Int32) (mu2 : Mem) => some (r1, mu2) else (if p1 ≤ 4 then (X8_tellCount u p1 : Option Int32).bind fun (r3 : Int32) => some (r3, u) else bd2 (X8_refuse u (-2)) fun (r4 : Int32) (mu5 : Mem) => some (r4, mu5)))
set_option maxHeartbeats 4000000 in
set_option maxRecDepth 100000 in
theorem c_X8_refused {l : Launch} {D : va_G} {A : Nat → Nat} {cI cZ cD : ClassId} {u u1 : Mem} {p1 : Int32} {r : Int32}  (hE : X8_refused u p1 = some (r, u1)) : Ct l yX8_refused cX8_refused 2 (some .int) (rmOf 1 21) D (tyL cI cZ cD) [.ref (A 58), .int p1] (wX A cI cZ cD u) (some (.int r)) (wX A cI cZ cD u1) := by
  refine Ct.ofW (by decide +kernel) (fun p e s m below meth c hC hI => ?_)
  obtain ⟨hx, hb, hml, hown, hr, hlk, hG⟩ := hC
  have hown : s.vm.findClass RX8 = some m.cls := hown
  have hl := lv_entry ([.ref (A 58), .int p1] : List Value) (n := 2) (Nat.le_of_ble_eq_true rfl)
  rw [lg_entry_eq]
  generalize (lg_sl ([.ref (A 58), .int p1] : List Value) ++ List.replicate (2 - (lg_sl ([.ref (A 58), .int p1] : List Value)).length) Slot.unset).toArray = ls at hl ⊢
  have hl : lv_has ls 2 [(0, .ref (A 58)), (1, .int p1)] := hl
  unfold X8_refused at hE
  refine lv_iload_n hx hb dX8_refused_0 rfl (lv_at hl 1 rfl) ?_
  refine lv_if_lt (tgt := 9) hx hb dX8_refused_1 (by decide) (fun c1 => ?_) (fun c1 => ?_)
  · rw [if_pos c1] at hE
    refine lv_aload_n hx hb dX8_refused_9 rfl (lv_at hl 0 rfl) ?_
    refine lv_bipush (v := (-2)) hx hb dX8_refused_10 (by decide) ?_
    obtain ⟨r1, mu2, hc, hE⟩ := bd2_some hE
    refine xc_V1 (rest := []) (c_X8_refuse hc) mw_X8_refuse km_X8_109 hx hb hml hown hG hI xA_of (wG_atE (by omega) eX_58) rfl rfl ⟨Nat.le_of_ble_eq_true rfl, Nat.le_of_ble_eq_true rfl⟩ rfl hl.1 rfl (Nat.le_of_ble_eq_true rfl) dX8_refused_12 (fun H locs hI => ?_)
    obtain ⟨rfl, rfl⟩ := sm2 hE
    exact xr_i hx hb hr hlk hG hI dX8_refused_15
  · rw [if_neg c1] at hE
    refine lv_iload_n hx hb dX8_refused_4 rfl (lv_at hl 1 rfl) ?_
    refine lv_iconst (v := 4) hx hb dX8_refused_5 (by decide) ?_
    refine lv_icmp_le (tgt := 16) hx hb dX8_refused_6 (by decide) (fun c6 => ?_) (fun c6 => ?_)
    · rw [if_pos c6] at hE
      refine lv_aload_n hx hb dX8_refused_16 rfl (lv_at hl 0 rfl) ?_
      refine lv_iload_n hx hb dX8_refused_17 rfl (lv_at hl 1 rfl) ?_
      obtain ⟨r3, hc, hE⟩ := bd1_some hE
      refine xc_V1 (rest := []) (c_X8_tellCount hc) mw_X8_tellCount km_X8_201 hx hb hml hown hG hI xA_of (wG_atE (by omega) eX_58) rfl rfl ⟨Nat.le_of_ble_eq_true rfl, Nat.le_of_ble_eq_true rfl⟩ rfl hl.1 rfl (Nat.le_of_ble_eq_true rfl) dX8_refused_18 (fun H locs hI => ?_)
      obtain ⟨rfl, rfl⟩ := sm2 hE
      exact xr_i hx hb hr hlk hG hI dX8_refused_21
    · rw [if_neg c6] at hE
      refine lv_aload_n hx hb dX8_refused_9 rfl (lv_at hl 0 rfl) ?_
      refine lv_bipush (v := (-2)) hx hb dX8_refused_10 (by decide) ?_
      obtain ⟨r4, mu5, hc, hE⟩ := bd2_some hE
      refine xc_V1 (rest := []) (c_X8_refuse hc) mw_X8_refuse km_X8_109 hx hb hml hown hG hI xA_of (wG_atE (by omega) eX_58) rfl rfl ⟨Nat.le_of_ble_eq_true rfl, Nat.le_of_ble_eq_true rfl⟩ rfl hl.1 rfl (Nat.le_of_ble_eq_true rfl) dX8_refused_12 (fun H locs hI => ?_)
      obtain ⟨rfl, rfl⟩ := sm2 hE
      exact xr_i hx hb hr hlk hG hI dX8_refused_15
def X8_mixedOutline_L50 (p2 : Nat) (u : Mem) (x6 : Int32) : Nat → Int64 → Int32 → Option (Int64)
  | 0, _, _ => none
  | n50 + 1, x11, x12 =>
    (if 3 < x12 then some x11 else (X4_trait (u (25 + p2)) x6 x12 : Option Int32).bind fun (r16 : Int32) => (X8_mixed x11 r16 : Option Int64).bind fun (r17 : Int64) => X8_mixedOutline_L50 p2 u x6 n50 r17 (x12 + 1))
def X8_mixedOutline_L25 (p2 : Nat) (u : Mem) (r1 : Int32) : Nat → Int64 → Int32 → Int32 → Option (Int64)
  | 0, _, _, _ => none
  | n25 + 1, x5, x6, x7 =>
    (if r1 ≤ x7 then some x5 else (if 16 ≤ x7 then some x5 else (X8_mixed x5 x6 : Option Int64).bind fun (r10 : Int64) => (X8_mixedOutline_L50 p2 u x6 fu r10 0 : Option Int64).bind fun (x13 : Int64) => (X4_following (u (25 + p2)) x6 : Option Int32).bind fun (r15 : Int32) => X8_mixedOutline_L25 p2 u r1 n25 x13 r15 (x7 + 1)))
def X8_mixedOutline (u : Mem) (p0 : Int64) (p2 : Nat) : Option (Int64) :=
  (X4_count (u (25 + p2)) : Option Int32).bind fun (r1 : Int32) => (X8_mixed p0 r1 : Option Int64).bind fun (r2 : Int64) => (X4_depth (u (25 + p2)) : Option Int32).bind fun (r3 : Int32) => (X8_mixed r2 r3 : Option Int64).bind fun (r4 : Int64) => (X8_mixedOutline_L25 p2 u r1 fu r4 0 0 : Option Int64).bind fun (x8 : Int64) => some x8
set_option maxHeartbeats 4000000 in
set_option maxRecDepth 100000 in
theorem c_X8_mixedOutline {l : Launch} {D : va_G} {A : Nat → Nat} {cI cZ cD : ClassId} {u : Mem} {p0 : Int64} {p2 : Nat} {r : Int64} (hp2 : p2 < 25) (hE : X8_mixedOutline u p0 p2 = some (r)) : Ct l yX8_mixedOutline cX8_mixedOutline 9 (some .long) (rmOf 3 69) D (tyL cI cZ cD) [.long p0, .ref (A p2)] (wX A cI cZ cD u) (some (.long r)) (wX A cI cZ cD u) := by
  refine Ct.ofW (by decide +kernel) (fun p e s m below meth c hC hI => ?_)
  obtain ⟨hx, hb, hml, hown, hr, hlk, hG⟩ := hC
  have hown : s.vm.findClass RX8 = some m.cls := hown
  have hl := lv_entry ([.long p0, .ref (A p2)] : List Value) (n := 9) (Nat.le_of_ble_eq_true rfl)
  rw [lg_entry_eq]
  generalize (lg_sl ([.long p0, .ref (A p2)] : List Value) ++ List.replicate (9 - (lg_sl ([.long p0, .ref (A p2)] : List Value)).length) Slot.unset).toArray = ls at hl ⊢
  have hl : lv_has ls 9 [(0, .long p0), (2, .ref (A p2))] := hl
  unfold X8_mixedOutline at hE
  refine lv_aload_n hx hb dX8_mixedOutline_0 rfl (lv_at hl 1 rfl) ?_
  obtain ⟨r1, hc, hE⟩ := bd1_some hE
  refine xc_V1 (rest := []) (Ct.toXr (j := p2) (by omega) (c_X4_count (OKX (j := p2) (by omega)) hc)) mw_X4_count km_X8_129 hx hb hml hown hG hI xA_of (wG_atE (by omega) (eX_O (j := p2) (by omega))) rfl rfl ⟨Nat.le_of_ble_eq_true rfl, Nat.le_of_ble_eq_true rfl⟩ rfl hl.1 rfl (Nat.le_of_ble_eq_true rfl) dX8_mixedOutline_1 (fun H locs hI => ?_)
  refine lv_istore_n (lv' := [(3, .int r1), (0, .long p0), (2, .ref (A p2))]) hx hb dX8_mixedOutline_4 rfl hl (by decide) rfl (fun ls hl => ?_)
  refine lv_lload_n hx hb dX8_mixedOutline_5 rfl (lv_at hl 1 rfl) ?_
  refine lv_iload_n hx hb dX8_mixedOutline_6 rfl (lv_at hl 0 rfl) ?_
  obtain ⟨r2, hc, hE⟩ := bd1_some hE
  refine xc_S1 (rest := []) (c_X8_mixed hc) mw_X8_mixed km_X8_206 hx hb hml hown hG hI xA_of ⟨Nat.le_of_ble_eq_true rfl, Nat.le_of_ble_eq_true rfl⟩ rfl hl.1 rfl (Nat.le_of_ble_eq_true rfl) dX8_mixedOutline_7 (fun H locs hI => ?_)
  refine lv_aload_n hx hb dX8_mixedOutline_10 rfl (lv_at hl 2 rfl) ?_
  obtain ⟨r3, hc, hE⟩ := bd1_some hE
  refine xc_V1 (rest := [.long r2]) (Ct.toXr (j := p2) (by omega) (c_X4_depth (OKX (j := p2) (by omega)) hc)) mw_X4_depth km_X8_132 hx hb hml hown hG hI xA_of (wG_atE (by omega) (eX_O (j := p2) (by omega))) rfl rfl ⟨Nat.le_of_ble_eq_true rfl, Nat.le_of_ble_eq_true rfl⟩ rfl hl.1 rfl (Nat.le_of_ble_eq_true rfl) dX8_mixedOutline_11 (fun H locs hI => ?_)
  obtain ⟨r4, hc, hE⟩ := bd1_some hE
  refine xc_S1 (rest := []) (c_X8_mixed hc) mw_X8_mixed km_X8_206 hx hb hml hown hG hI xA_of ⟨Nat.le_of_ble_eq_true rfl, Nat.le_of_ble_eq_true rfl⟩ rfl hl.1 rfl (Nat.le_of_ble_eq_true rfl) dX8_mixedOutline_14 (fun H locs hI => ?_)
  refine lv_lstore (lv' := [(4, .long r4), (3, .int r1), (0, .long p0), (2, .ref (A p2))]) hx hb dX8_mixedOutline_17 hl (by decide) rfl (fun ls hl => ?_)
  refine lv_iconst (v := 0) hx hb dX8_mixedOutline_19 (by decide) ?_
  refine lv_istore (lv' := [(6, .int 0), (4, .long r4), (3, .int r1), (0, .long p0), (2, .ref (A p2))]) hx hb dX8_mixedOutline_20 hl (by decide) rfl (fun ls hl => ?_)
  refine lv_iconst (v := 0) hx hb dX8_mixedOutline_22 (by decide) ?_
  refine lv_istore (lv' := [(7, .int 0), (6, .int 0), (4, .long r4), (3, .int r1), (0, .long p0), (2, .ref (A p2))]) hx hb dX8_mixedOutline_23 hl (by decide) rfl (fun ls hl => ?_)
  obtain ⟨x8, hZ, hE⟩ := bd1_some hE
  have hX25_8 : ∀ (H : Heap) (locs : List Loc) (ls : Array Slot), xI D (va_A (wX A cI cZ cD u) s.heap.size) s.heap (wX A cI cZ cD u) H locs → lv_has ls 9 [(4, .long x8)] → W p l e (rmOf 3 69) s m ([.long p0, .ref (A p2)] : List Value).toArray below meth c H locs 0 0 (xQ D (tyL cI cZ cD) below ([.long p0, .ref (A p2)] : List Value).toArray s (wX A cI cZ cD u) (some (.long r)) (wX A cI cZ cD u)) (F0 m 91 ls []) := by
    intro H locs ls hI hl
    clear hZ
    refine lv_lload hx hb dX8_mixedOutline_91 (lv_at hl 0 rfl) ?_
    obtain rfl := sm1 hE
    exact xr_l hx hb hr hlk hG hI dX8_mixedOutline_93
  replace hE := hZ
  clear hZ
  have hL25 : ∀ (n25 : Nat) (x5 : Int64) (x6 : Int32) (x7 : Int32) (H : Heap) (locs : List Loc) (ls : Array Slot), X8_mixedOutline_L25 p2 u r1 n25 x5 x6 x7 = some x8 → xI D (va_A (wX A cI cZ cD u) s.heap.size) s.heap (wX A cI cZ cD u) H locs → lv_has ls 9 [(2, .ref (A p2)), (3, .int r1), (4, .long x5), (6, .int x6), (7, .int x7)] → W p l e (rmOf 3 69) s m ([.long p0, .ref (A p2)] : List Value).toArray below meth c H locs 0 0 (xQ D (tyL cI cZ cD) below ([.long p0, .ref (A p2)] : List Value).toArray s (wX A cI cZ cD u) (some (.long r)) (wX A cI cZ cD u)) (F0 m 25 ls []) := by
    intro n25
    induction n25 with
    | zero =>
      intro x5 x6 x7 H locs ls hE
      exact absurd hE (by simp [X8_mixedOutline_L25])
    | succ n25 ih25 =>
      intro x5 x6 x7 H locs ls hE hI hl
      rw [X8_mixedOutline_L25] at hE
      refine lv_iload hx hb dX8_mixedOutline_25 (lv_at hl 4 rfl) ?_
      refine lv_iload_n hx hb dX8_mixedOutline_27 rfl (lv_at hl 1 rfl) ?_
      refine lv_icmp_ge (tgt := 91) hx hb dX8_mixedOutline_28 (by decide) (fun c28 => ?_) (fun c28 => ?_)
      · rw [if_pos c28] at hE
        obtain rfl := sm1 hE
        exact hX25_8 _ _ _ hI (lv_sub hl [2] rfl)
      · rw [if_neg c28] at hE
        refine lv_iload hx hb dX8_mixedOutline_31 (lv_at hl 4 rfl) ?_
        refine lv_bipush (v := 16) hx hb dX8_mixedOutline_33 (by decide) ?_
        refine lv_icmp_ge (tgt := 91) hx hb dX8_mixedOutline_35 (by decide) (fun c35 => ?_) (fun c35 => ?_)
        · rw [if_pos c35] at hE
          obtain rfl := sm1 hE
          exact hX25_8 _ _ _ hI (lv_sub hl [2] rfl)
        · rw [if_neg c35] at hE
          refine lv_lload hx hb dX8_mixedOutline_38 (lv_at hl 2 rfl) ?_
          refine lv_iload hx hb dX8_mixedOutline_40 (lv_at hl 3 rfl) ?_
          obtain ⟨r10, hc, hE⟩ := bd1_some hE
          refine xc_S1 (rest := []) (c_X8_mixed hc) mw_X8_mixed km_X8_206 hx hb hml hown hG hI xA_of ⟨Nat.le_of_ble_eq_true rfl, Nat.le_of_ble_eq_true rfl⟩ rfl hl.1 rfl (Nat.le_of_ble_eq_true rfl) dX8_mixedOutline_42 (fun H locs hI => ?_)
          refine lv_lstore (lv' := [(4, .long r10), (2, .ref (A p2)), (3, .int r1), (6, .int x6), (7, .int x7)]) hx hb dX8_mixedOutline_45 hl (by decide) rfl (fun ls hl => ?_)
          refine lv_iconst (v := 0) hx hb dX8_mixedOutline_47 (by decide) ?_
          refine lv_istore (lv' := [(8, .int 0), (4, .long r10), (2, .ref (A p2)), (3, .int r1), (6, .int x6), (7, .int x7)]) hx hb dX8_mixedOutline_48 hl (by decide) rfl (fun ls hl => ?_)
          obtain ⟨x13, hZ, hE⟩ := bd1_some hE
          have hX50_13 : ∀ (H : Heap) (locs : List Loc) (ls : Array Slot), xI D (va_A (wX A cI cZ cD u) s.heap.size) s.heap (wX A cI cZ cD u) H locs → lv_has ls 9 [(2, .ref (A p2)), (3, .int r1), (4, .long x13), (6, .int x6), (7, .int x7)] → W p l e (rmOf 3 69) s m ([.long p0, .ref (A p2)] : List Value).toArray below meth c H locs 0 0 (xQ D (tyL cI cZ cD) below ([.long p0, .ref (A p2)] : List Value).toArray s (wX A cI cZ cD u) (some (.long r)) (wX A cI cZ cD u)) (F0 m 77 ls []) := by
            intro H locs ls hI hl
            clear hZ
            refine lv_aload_n hx hb dX8_mixedOutline_77 rfl (lv_at hl 0 rfl) ?_
            refine lv_iload hx hb dX8_mixedOutline_78 (lv_at hl 3 rfl) ?_
            obtain ⟨r15, hc, hE⟩ := bd1_some hE
            refine xc_V1 (rest := []) (Ct.toXr (j := p2) (by omega) (c_X4_following (OKX (j := p2) (by omega)) hc)) mw_X4_following km_X8_126 hx hb hml hown hG hI xA_of (wG_atE (by omega) (eX_O (j := p2) (by omega))) rfl rfl ⟨Nat.le_of_ble_eq_true rfl, Nat.le_of_ble_eq_true rfl⟩ rfl hl.1 rfl (Nat.le_of_ble_eq_true rfl) dX8_mixedOutline_80 (fun H locs hI => ?_)
            refine lv_istore (lv' := [(6, .int r15), (2, .ref (A p2)), (3, .int r1), (4, .long x13), (7, .int x7)]) hx hb dX8_mixedOutline_83 hl (by decide) rfl (fun ls hl => ?_)
            refine lv_iinc (v := x7 + 1) (lv' := [(7, .int (x7 + 1)), (6, .int r15), (2, .ref (A p2)), (3, .int r1), (4, .long x13)]) hx hb dX8_mixedOutline_85 hl (k := 4) rfl rfl (by decide) rfl (fun ls hl => ?_)
            refine lv_goto (tgt := 25) hx hb dX8_mixedOutline_88 (by decide) ?_
            exact ih25 _ _ _ _ _ _ hE hI (lv_sub hl [2, 3, 4, 1, 0] rfl)
          replace hE := hZ
          clear hZ
          have hL50 : ∀ (n50 : Nat) (x11 : Int64) (x12 : Int32) (H : Heap) (locs : List Loc) (ls : Array Slot), X8_mixedOutline_L50 p2 u x6 n50 x11 x12 = some x13 → xI D (va_A (wX A cI cZ cD u) s.heap.size) s.heap (wX A cI cZ cD u) H locs → lv_has ls 9 [(2, .ref (A p2)), (3, .int r1), (4, .long x11), (6, .int x6), (7, .int x7), (8, .int x12)] → W p l e (rmOf 3 69) s m ([.long p0, .ref (A p2)] : List Value).toArray below meth c H locs 0 0 (xQ D (tyL cI cZ cD) below ([.long p0, .ref (A p2)] : List Value).toArray s (wX A cI cZ cD u) (some (.long r)) (wX A cI cZ cD u)) (F0 m 50 ls []) := by
            intro n50
            induction n50 with
            | zero =>
              intro x11 x12 H locs ls hE
              exact absurd hE (by simp [X8_mixedOutline_L50])
            | succ n50 ih50 =>
              intro x11 x12 H locs ls hE hI hl
              rw [X8_mixedOutline_L50] at hE
              refine lv_iload hx hb dX8_mixedOutline_50 (lv_at hl 5 rfl) ?_
              refine lv_iconst (v := 3) hx hb dX8_mixedOutline_52 (by decide) ?_
              refine lv_icmp_gt (tgt := 77) hx hb dX8_mixedOutline_53 (by decide) (fun c53 => ?_) (fun c53 => ?_)
              · rw [if_pos c53] at hE
                obtain rfl := sm1 hE
                exact hX50_13 _ _ _ hI (lv_sub hl [0, 1, 2, 3, 4] rfl)
              · rw [if_neg c53] at hE
                refine lv_lload hx hb dX8_mixedOutline_56 (lv_at hl 2 rfl) ?_
                refine lv_aload_n hx hb dX8_mixedOutline_58 rfl (lv_at hl 0 rfl) ?_
                refine lv_iload hx hb dX8_mixedOutline_59 (lv_at hl 3 rfl) ?_
                refine lv_iload hx hb dX8_mixedOutline_61 (lv_at hl 5 rfl) ?_
                obtain ⟨r16, hc, hE⟩ := bd1_some hE
                refine xc_V1 (rest := [.long x11]) (Ct.toXr (j := p2) (by omega) (c_X4_trait (OKX (j := p2) (by omega)) hc)) mw_X4_trait km_X8_123 hx hb hml hown hG hI xA_of (wG_atE (by omega) (eX_O (j := p2) (by omega))) rfl rfl ⟨Nat.le_of_ble_eq_true rfl, Nat.le_of_ble_eq_true rfl⟩ rfl hl.1 rfl (Nat.le_of_ble_eq_true rfl) dX8_mixedOutline_63 (fun H locs hI => ?_)
                obtain ⟨r17, hc, hE⟩ := bd1_some hE
                refine xc_S1 (rest := []) (c_X8_mixed hc) mw_X8_mixed km_X8_206 hx hb hml hown hG hI xA_of ⟨Nat.le_of_ble_eq_true rfl, Nat.le_of_ble_eq_true rfl⟩ rfl hl.1 rfl (Nat.le_of_ble_eq_true rfl) dX8_mixedOutline_66 (fun H locs hI => ?_)
                refine lv_lstore (lv' := [(4, .long r17), (2, .ref (A p2)), (3, .int r1), (6, .int x6), (7, .int x7), (8, .int x12)]) hx hb dX8_mixedOutline_69 hl (by decide) rfl (fun ls hl => ?_)
                refine lv_iinc (v := x12 + 1) (lv' := [(8, .int (x12 + 1)), (4, .long r17), (2, .ref (A p2)), (3, .int r1), (6, .int x6), (7, .int x7)]) hx hb dX8_mixedOutline_71 hl (k := 5) rfl rfl (by decide) rfl (fun ls hl => ?_)
                refine lv_goto (tgt := 50) hx hb dX8_mixedOutline_74 (by decide) ?_
                exact ih50 _ _ _ _ _ hE hI (lv_sub hl [2, 3, 1, 4, 5, 0] rfl)
          exact hL50 _ _ _ _ _ _ hE hI (lv_sub hl [2, 3, 1, 4, 5, 0] rfl)
  exact hL25 _ _ _ _ _ _ _ hE hI (lv_sub hl [5, 3, 2, 1, 0] rfl)
def X8_mixedConflicts_L32 (p2 : Nat) (u : Mem) (x3 : Int32) : Nat → Int64 → Int32 → Option (Int64)
  | 0, _, _ => none
  | n32 + 1, x6, x7 =>
    (if 2 < x7 then some x6 else (X6_answer u p2 x3 x7 : Option Int32).bind fun (r10 : Int32) => (X8_mixed x6 r10 : Option Int64).bind fun (r11 : Int64) => X8_mixedConflicts_L32 p2 u x3 n32 r11 (x7 + 1))
def X8_mixedConflicts_L12 (p2 : Nat) (u : Mem) : Nat → Int64 → Int32 → Option (Int64)
  | 0, _, _ => none
  | n12 + 1, x2, x3 =>
    (if (u (64 + 4 * p2) 3) ≤ x3 then some x2 else (if 128 ≤ x3 then some x2 else (X8_mixedConflicts_L32 p2 u x3 fu x2 0 : Option Int64).bind fun (x8 : Int64) => X8_mixedConflicts_L12 p2 u n12 x8 (x3 + 1)))
def X8_mixedConflicts (u : Mem) (p0 : Int64) (p2 : Nat) : Option (Int64) :=
  (X8_mixed p0 (u (64 + 4 * p2) 3) : Option Int64).bind fun (r1 : Int64) => (X8_mixedConflicts_L12 p2 u fu r1 0 : Option Int64).bind fun (x4 : Int64) => some x4
set_option maxHeartbeats 4000000 in
set_option maxRecDepth 100000 in
theorem c_X8_mixedConflicts {l : Launch} {D : va_G} {A : Nat → Nat} {cI cZ cD : ClassId} {u : Mem} {p0 : Int64} {p2 : Nat} {r : Int64} (hp2 : p2 < 2) (hE : X8_mixedConflicts u p0 p2 = some (r)) : Ct l yX8_mixedConflicts cX8_mixedConflicts 7 (some .long) (rmOf 1 22) D (tyL cI cZ cD) [.long p0, .ref (A (64 + 4 * p2))] (wX A cI cZ cD u) (some (.long r)) (wX A cI cZ cD u) := by
  refine Ct.ofW (by decide +kernel) (fun p e s m below meth c hC hI => ?_)
  obtain ⟨hx, hb, hml, hown, hr, hlk, hG⟩ := hC
  have hown : s.vm.findClass RX8 = some m.cls := hown
  have hl := lv_entry ([.long p0, .ref (A (64 + 4 * p2))] : List Value) (n := 7) (Nat.le_of_ble_eq_true rfl)
  rw [lg_entry_eq]
  generalize (lg_sl ([.long p0, .ref (A (64 + 4 * p2))] : List Value) ++ List.replicate (7 - (lg_sl ([.long p0, .ref (A (64 + 4 * p2))] : List Value)).length) Slot.unset).toArray = ls at hl ⊢
  have hl : lv_has ls 7 [(0, .long p0), (2, .ref (A (64 + 4 * p2)))] := hl
  unfold X8_mixedConflicts at hE
  refine lv_lload_n hx hb dX8_mixedConflicts_0 rfl (lv_at hl 0 rfl) ?_
  refine lv_aload_n hx hb dX8_mixedConflicts_1 rfl (lv_at hl 1 rfl) ?_
  refine xg_getN (C := RX6) (T := TX6) (M := 4) hx hb hown hG hI (by omega) (eX_T (t := p2) (by omega)) rfl inX6 3 (by decide) kf_X8_218 rfl dX8_mixedConflicts_2 ?_
  obtain ⟨r1, hc, hE⟩ := bd1_some hE
  refine xc_S1 (rest := []) (c_X8_mixed hc) mw_X8_mixed km_X8_206 hx hb hml hown hG hI xA_of ⟨Nat.le_of_ble_eq_true rfl, Nat.le_of_ble_eq_true rfl⟩ rfl hl.1 rfl (Nat.le_of_ble_eq_true rfl) dX8_mixedConflicts_5 (fun H locs hI => ?_)
  refine lv_lstore_n (lv' := [(3, .long r1), (0, .long p0), (2, .ref (A (64 + 4 * p2)))]) hx hb dX8_mixedConflicts_8 rfl hl (by decide) rfl (fun ls hl => ?_)
  refine lv_iconst (v := 0) hx hb dX8_mixedConflicts_9 (by decide) ?_
  refine lv_istore (lv' := [(5, .int 0), (3, .long r1), (0, .long p0), (2, .ref (A (64 + 4 * p2)))]) hx hb dX8_mixedConflicts_10 hl (by decide) rfl (fun ls hl => ?_)
  obtain ⟨x4, hZ, hE⟩ := bd1_some hE
  have hX12_4 : ∀ (H : Heap) (locs : List Loc) (ls : Array Slot), xI D (va_A (wX A cI cZ cD u) s.heap.size) s.heap (wX A cI cZ cD u) H locs → lv_has ls 7 [(3, .long x4)] → W p l e (rmOf 1 22) s m ([.long p0, .ref (A (64 + 4 * p2))] : List Value).toArray below meth c H locs 0 0 (xQ D (tyL cI cZ cD) below ([.long p0, .ref (A (64 + 4 * p2))] : List Value).toArray s (wX A cI cZ cD u) (some (.long r)) (wX A cI cZ cD u)) (F0 m 63 ls []) := by
    intro H locs ls hI hl
    clear hZ
    refine lv_lload_n hx hb dX8_mixedConflicts_63 rfl (lv_at hl 0 rfl) ?_
    obtain rfl := sm1 hE
    exact xr_l hx hb hr hlk hG hI dX8_mixedConflicts_64
  replace hE := hZ
  clear hZ
  have hL12 : ∀ (n12 : Nat) (x2 : Int64) (x3 : Int32) (H : Heap) (locs : List Loc) (ls : Array Slot), X8_mixedConflicts_L12 p2 u n12 x2 x3 = some x4 → xI D (va_A (wX A cI cZ cD u) s.heap.size) s.heap (wX A cI cZ cD u) H locs → lv_has ls 7 [(2, .ref (A (64 + 4 * p2))), (3, .long x2), (5, .int x3)] → W p l e (rmOf 1 22) s m ([.long p0, .ref (A (64 + 4 * p2))] : List Value).toArray below meth c H locs 0 0 (xQ D (tyL cI cZ cD) below ([.long p0, .ref (A (64 + 4 * p2))] : List Value).toArray s (wX A cI cZ cD u) (some (.long r)) (wX A cI cZ cD u)) (F0 m 12 ls []) := by
    intro n12
    induction n12 with
    | zero =>
      intro x2 x3 H locs ls hE
      exact absurd hE (by simp [X8_mixedConflicts_L12])
    | succ n12 ih12 =>
      intro x2 x3 H locs ls hE hI hl
      rw [X8_mixedConflicts_L12] at hE
      refine lv_iload hx hb dX8_mixedConflicts_12 (lv_at hl 2 rfl) ?_
      refine lv_aload_n hx hb dX8_mixedConflicts_14 rfl (lv_at hl 0 rfl) ?_
      refine xg_getN (C := RX6) (T := TX6) (M := 4) hx hb hown hG hI (by omega) (eX_T (t := p2) (by omega)) rfl inX6 3 (by decide) kf_X8_218 rfl dX8_mixedConflicts_15 ?_
      refine lv_icmp_ge (tgt := 63) hx hb dX8_mixedConflicts_18 (by decide) (fun c18 => ?_) (fun c18 => ?_)
      · rw [if_pos c18] at hE
        obtain rfl := sm1 hE
        exact hX12_4 _ _ _ hI (lv_sub hl [1] rfl)
      · rw [if_neg c18] at hE
        refine lv_iload hx hb dX8_mixedConflicts_21 (lv_at hl 2 rfl) ?_
        refine lv_sipush (v := 128) hx hb dX8_mixedConflicts_23 (by decide) ?_
        refine lv_icmp_ge (tgt := 63) hx hb dX8_mixedConflicts_26 (by decide) (fun c26 => ?_) (fun c26 => ?_)
        · rw [if_pos c26] at hE
          obtain rfl := sm1 hE
          exact hX12_4 _ _ _ hI (lv_sub hl [1] rfl)
        · rw [if_neg c26] at hE
          refine lv_iconst (v := 0) hx hb dX8_mixedConflicts_29 (by decide) ?_
          refine lv_istore (lv' := [(6, .int 0), (2, .ref (A (64 + 4 * p2))), (3, .long x2), (5, .int x3)]) hx hb dX8_mixedConflicts_30 hl (by decide) rfl (fun ls hl => ?_)
          obtain ⟨x8, hZ, hE⟩ := bd1_some hE
          have hX32_8 : ∀ (H : Heap) (locs : List Loc) (ls : Array Slot), xI D (va_A (wX A cI cZ cD u) s.heap.size) s.heap (wX A cI cZ cD u) H locs → lv_has ls 7 [(2, .ref (A (64 + 4 * p2))), (3, .long x8), (5, .int x3)] → W p l e (rmOf 1 22) s m ([.long p0, .ref (A (64 + 4 * p2))] : List Value).toArray below meth c H locs 0 0 (xQ D (tyL cI cZ cD) below ([.long p0, .ref (A (64 + 4 * p2))] : List Value).toArray s (wX A cI cZ cD u) (some (.long r)) (wX A cI cZ cD u)) (F0 m 57 ls []) := by
            intro H locs ls hI hl
            clear hZ
            refine lv_iinc (v := x3 + 1) (lv' := [(5, .int (x3 + 1)), (2, .ref (A (64 + 4 * p2))), (3, .long x8)]) hx hb dX8_mixedConflicts_57 hl (k := 2) rfl rfl (by decide) rfl (fun ls hl => ?_)
            refine lv_goto (tgt := 12) hx hb dX8_mixedConflicts_60 (by decide) ?_
            exact ih12 _ _ _ _ _ hE hI (lv_sub hl [1, 2, 0] rfl)
          replace hE := hZ
          clear hZ
          have hL32 : ∀ (n32 : Nat) (x6 : Int64) (x7 : Int32) (H : Heap) (locs : List Loc) (ls : Array Slot), X8_mixedConflicts_L32 p2 u x3 n32 x6 x7 = some x8 → xI D (va_A (wX A cI cZ cD u) s.heap.size) s.heap (wX A cI cZ cD u) H locs → lv_has ls 7 [(2, .ref (A (64 + 4 * p2))), (3, .long x6), (5, .int x3), (6, .int x7)] → W p l e (rmOf 1 22) s m ([.long p0, .ref (A (64 + 4 * p2))] : List Value).toArray below meth c H locs 0 0 (xQ D (tyL cI cZ cD) below ([.long p0, .ref (A (64 + 4 * p2))] : List Value).toArray s (wX A cI cZ cD u) (some (.long r)) (wX A cI cZ cD u)) (F0 m 32 ls []) := by
            intro n32
            induction n32 with
            | zero =>
              intro x6 x7 H locs ls hE
              exact absurd hE (by simp [X8_mixedConflicts_L32])
            | succ n32 ih32 =>
              intro x6 x7 H locs ls hE hI hl
              rw [X8_mixedConflicts_L32] at hE
              refine lv_iload hx hb dX8_mixedConflicts_32 (lv_at hl 3 rfl) ?_
              refine lv_iconst (v := 2) hx hb dX8_mixedConflicts_34 (by decide) ?_
              refine lv_icmp_gt (tgt := 57) hx hb dX8_mixedConflicts_35 (by decide) (fun c35 => ?_) (fun c35 => ?_)
              · rw [if_pos c35] at hE
                obtain rfl := sm1 hE
                exact hX32_8 _ _ _ hI (lv_sub hl [0, 1, 2] rfl)
              · rw [if_neg c35] at hE
                refine lv_lload_n hx hb dX8_mixedConflicts_38 rfl (lv_at hl 1 rfl) ?_
                refine lv_aload_n hx hb dX8_mixedConflicts_39 rfl (lv_at hl 0 rfl) ?_
                refine lv_iload hx hb dX8_mixedConflicts_40 (lv_at hl 2 rfl) ?_
                refine lv_iload hx hb dX8_mixedConflicts_42 (lv_at hl 3 rfl) ?_
                obtain ⟨r10, hc, hE⟩ := bd1_some hE
                refine xc_V1 (rest := [.long x6]) (c_X6_answer (by omega) hc) mw_X6_answer km_X8_149 hx hb hml hown hG hI xA_of (wG_atE (by omega) (eX_T (t := p2) (by omega))) rfl rfl ⟨Nat.le_of_ble_eq_true rfl, Nat.le_of_ble_eq_true rfl⟩ rfl hl.1 rfl (Nat.le_of_ble_eq_true rfl) dX8_mixedConflicts_44 (fun H locs hI => ?_)
                obtain ⟨r11, hc, hE⟩ := bd1_some hE
                refine xc_S1 (rest := []) (c_X8_mixed hc) mw_X8_mixed km_X8_206 hx hb hml hown hG hI xA_of ⟨Nat.le_of_ble_eq_true rfl, Nat.le_of_ble_eq_true rfl⟩ rfl hl.1 rfl (Nat.le_of_ble_eq_true rfl) dX8_mixedConflicts_47 (fun H locs hI => ?_)
                refine lv_lstore_n (lv' := [(3, .long r11), (2, .ref (A (64 + 4 * p2))), (5, .int x3), (6, .int x7)]) hx hb dX8_mixedConflicts_50 rfl hl (by decide) rfl (fun ls hl => ?_)
                refine lv_iinc (v := x7 + 1) (lv' := [(6, .int (x7 + 1)), (3, .long r11), (2, .ref (A (64 + 4 * p2))), (5, .int x3)]) hx hb dX8_mixedConflicts_51 hl (k := 3) rfl rfl (by decide) rfl (fun ls hl => ?_)
                refine lv_goto (tgt := 32) hx hb dX8_mixedConflicts_54 (by decide) ?_
                exact ih32 _ _ _ _ _ hE hI (lv_sub hl [2, 1, 3, 0] rfl)
          exact hL32 _ _ _ _ _ _ hE hI (lv_sub hl [1, 2, 3, 0] rfl)
  exact hL12 _ _ _ _ _ _ hE hI (lv_sub hl [3, 1, 0] rfl)
def X8_digest_L87 : Nat → Int64 → Int32 → Mem → Option (Int64 × Mem)
  | 0, _, _, _ => none
  | n87 + 1, x18, x19, mu20 =>
    (if 2 < x19 then some (x18, mu20) else (X0_outline mu20 0 0 : Option Nat).bind fun (r24 : Nat) => (X0_outline mu20 0 x19 : Option Nat).bind fun (r25 : Nat) => (X5_write mu20 r24 r25 : Option Mem).bind fun (mu26 : Mem) => (X8_mixed x18 (mu26 68 3) : Option Int64).bind fun (r27 : Int64) => X8_digest_L87 n87 r27 (x19 + 1) mu26)
def X8_digest_L52 : Nat → Int64 → Int32 → Mem → Option (Int64 × Mem)
  | 0, _, _, _ => none
  | n52 + 1, x11, x12, mu13 =>
    (if 3 < x12 then some (x11, mu13) else bd2 (X8_outline mu13 x12) fun (r28 : Nat) (mu29 : Mem) => (X8_mixedOutline mu29 x11 r28 : Option Int64).bind fun (r30 : Int64) => X8_digest_L52 n52 r30 (x12 + 1) mu29)
def X8_digest_L29 : Nat → Int64 → Int32 → Mem → Option (Int64 × Mem)
  | 0, _, _, _ => none
  | n29 + 1, x5, x6, mu7 =>
    (if 3 < x6 then some (x5, mu7) else bd2 (X8_tellDesk mu7 x6) fun (r31 : Int32) (mu32 : Mem) => (X8_mixed x5 r31 : Option Int64).bind fun (r33 : Int64) => X8_digest_L29 n29 r33 (x6 + 1) mu32)
def X8_digest_L6 (u : Mem) : Nat → Int64 → Int32 → Option (Int64)
  | 0, _, _ => none
  | n6 + 1, x1, x2 =>
    (if 4 < x2 then some x1 else (X8_tellCount u x2 : Option Int32).bind fun (r34 : Int32) => (X8_mixed x1 r34 : Option Int64).bind fun (r35 : Int64) => X8_digest_L6 u n6 r35 (x2 + 1))
def X8_digest (u : Mem) : Option (Int64 × Mem) :=
  (X8_digest_L6 u fu 1703 0 : Option Int64).bind fun (x3 : Int64) => bd2 (X8_digest_L29 fu x3 0 u) fun (x8 : Int64) (mu9 : Mem) => bd2 (X8_digest_L52 fu x8 0 mu9) fun (x14 : Int64) (mu15 : Mem) => (X8_mixedConflicts mu15 x14 0 : Option Int64).bind fun (r17 : Int64) => bd2 (X8_digest_L87 fu r17 1 mu15) fun (x21 : Int64) (mu22 : Mem) => some (x21, mu22)
set_option maxHeartbeats 4000000 in
set_option maxRecDepth 100000 in
theorem c_X8_digest {l : Launch} {D : va_G} {A : Nat → Nat} {cI cZ cD : ClassId} {u u1 : Mem} {r : Int64}  (hE : X8_digest u = some (r, u1)) : Ct l yX8_digest cX8_digest 4 (some .long) (rmOf 6 137) D (tyL cI cZ cD) [.ref (A 58)] (wX A cI cZ cD u) (some (.long r)) (wX A cI cZ cD u1) := by
  refine Ct.ofW (by decide +kernel) (fun p e s m below meth c hC hI => ?_)
  obtain ⟨hx, hb, hml, hown, hr, hlk, hG⟩ := hC
  have hown : s.vm.findClass RX8 = some m.cls := hown
  have hl := lv_entry ([.ref (A 58)] : List Value) (n := 4) (Nat.le_of_ble_eq_true rfl)
  rw [lg_entry_eq]
  generalize (lg_sl ([.ref (A 58)] : List Value) ++ List.replicate (4 - (lg_sl ([.ref (A 58)] : List Value)).length) Slot.unset).toArray = ls at hl ⊢
  have hl : lv_has ls 4 [(0, .ref (A 58))] := hl
  unfold X8_digest at hE
  refine lv_ldc2 (v := 1703) hx hb hown (hG.2 _ kc_X8_204 _) dX8_digest_0 ?_
  refine lv_lstore_n (lv' := [(1, .long 1703), (0, .ref (A 58))]) hx hb dX8_digest_3 rfl hl (by decide) rfl (fun ls hl => ?_)
  refine lv_iconst (v := 0) hx hb dX8_digest_4 (by decide) ?_
  refine lv_istore_n (lv' := [(3, .int 0), (1, .long 1703), (0, .ref (A 58))]) hx hb dX8_digest_5 rfl hl (by decide) rfl (fun ls hl => ?_)
  obtain ⟨x3, hZ, hE⟩ := bd1_some hE
  have hX6_3 : ∀ (H : Heap) (locs : List Loc) (ls : Array Slot), xI D (va_A (wX A cI cZ cD u) s.heap.size) s.heap (wX A cI cZ cD u) H locs → lv_has ls 4 [(0, .ref (A 58)), (1, .long x3)] → W p l e (rmOf 6 137) s m ([.ref (A 58)] : List Value).toArray below meth c H locs 0 0 (xQ D (tyL cI cZ cD) below ([.ref (A 58)] : List Value).toArray s (wX A cI cZ cD u) (some (.long r)) (wX A cI cZ cD u1)) (F0 m 27 ls []) := by
    intro H locs ls hI hl
    clear hZ
    refine lv_iconst (v := 0) hx hb dX8_digest_27 (by decide) ?_
    refine lv_istore_n (lv' := [(3, .int 0), (0, .ref (A 58)), (1, .long x3)]) hx hb dX8_digest_28 rfl hl (by decide) rfl (fun ls hl => ?_)
    obtain ⟨x8, mu9, hZ, hE⟩ := bd2_some hE
    have hX29_9 : ∀ (H : Heap) (locs : List Loc) (ls : Array Slot), xI D (va_A (wX A cI cZ cD u) s.heap.size) s.heap (wX A cI cZ cD mu9) H locs → lv_has ls 4 [(0, .ref (A 58)), (1, .long x8)] → W p l e (rmOf 6 137) s m ([.ref (A 58)] : List Value).toArray below meth c H locs 0 0 (xQ D (tyL cI cZ cD) below ([.ref (A 58)] : List Value).toArray s (wX A cI cZ cD u) (some (.long r)) (wX A cI cZ cD u1)) (F0 m 50 ls []) := by
      intro H locs ls hI hl
      clear hZ
      refine lv_iconst (v := 0) hx hb dX8_digest_50 (by decide) ?_
      refine lv_istore_n (lv' := [(3, .int 0), (0, .ref (A 58)), (1, .long x8)]) hx hb dX8_digest_51 rfl hl (by decide) rfl (fun ls hl => ?_)
      obtain ⟨x14, mu15, hZ, hE⟩ := bd2_some hE
      have hX52_15 : ∀ (H : Heap) (locs : List Loc) (ls : Array Slot), xI D (va_A (wX A cI cZ cD u) s.heap.size) s.heap (wX A cI cZ cD mu15) H locs → lv_has ls 4 [(0, .ref (A 58)), (1, .long x14)] → W p l e (rmOf 6 137) s m ([.ref (A 58)] : List Value).toArray below meth c H locs 0 0 (xQ D (tyL cI cZ cD) below ([.ref (A 58)] : List Value).toArray s (wX A cI cZ cD u) (some (.long r)) (wX A cI cZ cD u1)) (F0 m 73 ls []) := by
        intro H locs ls hI hl
        clear hZ
        refine lv_lload_n hx hb dX8_digest_73 rfl (lv_at hl 1 rfl) ?_
        refine lv_aload_n hx hb dX8_digest_74 rfl (lv_at hl 0 rfl) ?_
        refine xg_get (C := RX8) (T := TX8) (M := 10) hx hb hown hG hI (by omega) eX_58 rfl inX8 3 (by decide) kf_X8_29 rfl dX8_digest_75 ?_
        refine xg_getN (C := RX3) (T := TX3) (M := 6) hx hb hown hG hI (by omega) eX_61 rfl inX3 2 (by decide) kf_X8_145 rfl dX8_digest_78 ?_
        obtain ⟨r17, hc, hE⟩ := bd1_some hE
        refine xc_S1 (rest := []) (c_X8_mixedConflicts (by omega) hc) mw_X8_mixedConflicts km_X8_214 hx hb hml hown hG hI xA_of ⟨Nat.le_of_ble_eq_true rfl, Nat.le_of_ble_eq_true rfl⟩ rfl hl.1 rfl (Nat.le_of_ble_eq_true rfl) dX8_digest_81 (fun H locs hI => ?_)
        refine lv_lstore_n (lv' := [(1, .long r17), (0, .ref (A 58))]) hx hb dX8_digest_84 rfl hl (by decide) rfl (fun ls hl => ?_)
        refine lv_iconst (v := 1) hx hb dX8_digest_85 (by decide) ?_
        refine lv_istore_n (lv' := [(3, .int 1), (1, .long r17), (0, .ref (A 58))]) hx hb dX8_digest_86 rfl hl (by decide) rfl (fun ls hl => ?_)
        obtain ⟨x21, mu22, hZ, hE⟩ := bd2_some hE
        have hX87_22 : ∀ (H : Heap) (locs : List Loc) (ls : Array Slot), xI D (va_A (wX A cI cZ cD u) s.heap.size) s.heap (wX A cI cZ cD mu22) H locs → lv_has ls 4 [(1, .long x21)] → W p l e (rmOf 6 137) s m ([.ref (A 58)] : List Value).toArray below meth c H locs 0 0 (xQ D (tyL cI cZ cD) below ([.ref (A 58)] : List Value).toArray s (wX A cI cZ cD u) (some (.long r)) (wX A cI cZ cD u1)) (F0 m 136 ls []) := by
          intro H locs ls hI hl
          clear hZ
          refine lv_lload_n hx hb dX8_digest_136 rfl (lv_at hl 0 rfl) ?_
          obtain ⟨rfl, rfl⟩ := sm2 hE
          exact xr_l hx hb hr hlk hG hI dX8_digest_137
        replace hE := hZ
        clear hZ
        have hL87 : ∀ (n87 : Nat) (x18 : Int64) (x19 : Int32) (mu20 : Mem) (H : Heap) (locs : List Loc) (ls : Array Slot), X8_digest_L87 n87 x18 x19 mu20 = some (x21, mu22) → xI D (va_A (wX A cI cZ cD u) s.heap.size) s.heap (wX A cI cZ cD mu20) H locs → lv_has ls 4 [(0, .ref (A 58)), (1, .long x18), (3, .int x19)] → W p l e (rmOf 6 137) s m ([.ref (A 58)] : List Value).toArray below meth c H locs 0 0 (xQ D (tyL cI cZ cD) below ([.ref (A 58)] : List Value).toArray s (wX A cI cZ cD u) (some (.long r)) (wX A cI cZ cD u1)) (F0 m 87 ls []) := by
          intro n87
          induction n87 with
          | zero =>
            intro x18 x19 mu20 H locs ls hE
            exact absurd hE (by simp [X8_digest_L87])
          | succ n87 ih87 =>
            intro x18 x19 mu20 H locs ls hE hI hl
            rw [X8_digest_L87] at hE
            refine lv_iload_n hx hb dX8_digest_87 rfl (lv_at hl 2 rfl) ?_
            refine lv_iconst (v := 2) hx hb dX8_digest_88 (by decide) ?_
            refine lv_icmp_gt (tgt := 136) hx hb dX8_digest_89 (by decide) (fun c89 => ?_) (fun c89 => ?_)
            · rw [if_pos c89] at hE
              obtain ⟨rfl, rfl⟩ := sm2 hE
              exact hX87_22 _ _ _ hI (lv_sub hl [1] rfl)
            · rw [if_neg c89] at hE
              refine lv_aload_n hx hb dX8_digest_92 rfl (lv_at hl 0 rfl) ?_
              refine xg_get (C := RX8) (T := TX8) (M := 10) hx hb hown hG hI (by omega) eX_58 rfl inX8 4 (by decide) kf_X8_36 rfl dX8_digest_93 ?_
              refine lv_aload_n hx hb dX8_digest_96 rfl (lv_at hl 0 rfl) ?_
              refine xg_get (C := RX8) (T := TX8) (M := 10) hx hb hown hG hI (by omega) eX_58 rfl inX8 0 (by decide) kf_X8_12 rfl dX8_digest_97 ?_
              refine lv_iconst (v := 0) hx hb dX8_digest_100 (by decide) ?_
              obtain ⟨r24, hc, hE⟩ := bd1_some hE
              refine xc_V1 (rest := [.ref (A 72)]) (c_X0_outline (by omega) hc) mw_X0_outline km_X8_157 hx hb hml hown hG hI xA_of (wG_atE (by omega) (eX_D (d := 0) (by omega))) rfl rfl ⟨Nat.le_of_ble_eq_true rfl, Nat.le_of_ble_eq_true rfl⟩ rfl hl.1 rfl (Nat.le_of_ble_eq_true rfl) dX8_digest_101 (fun H locs hI => ?_)
              have hr24 : r24 < 25 := lt_X0_outline (by omega) hc
              refine lv_aload_n hx hb dX8_digest_104 rfl (lv_at hl 0 rfl) ?_
              refine xg_get (C := RX8) (T := TX8) (M := 10) hx hb hown hG hI (by omega) eX_58 rfl inX8 0 (by decide) kf_X8_12 rfl dX8_digest_105 ?_
              refine lv_iload_n hx hb dX8_digest_108 rfl (lv_at hl 2 rfl) ?_
              obtain ⟨r25, hc, hE⟩ := bd1_some hE
              refine xc_V1 (rest := [.ref (A r24), .ref (A 72)]) (c_X0_outline (by omega) hc) mw_X0_outline km_X8_157 hx hb hml hown hG hI xA_of (wG_atE (by omega) (eX_D (d := 0) (by omega))) rfl rfl ⟨Nat.le_of_ble_eq_true rfl, Nat.le_of_ble_eq_true rfl⟩ rfl hl.1 rfl (Nat.le_of_ble_eq_true rfl) dX8_digest_109 (fun H locs hI => ?_)
              have hr25 : r25 < 25 := lt_X0_outline (by omega) hc
              obtain ⟨mu26, hc, hE⟩ := bd1_some hE
              refine xc_V0 (rest := []) (c_X5_write (by omega) (by omega) hc) mw_X5_write km_X8_158 hx hb hml hown hG hI xA_of (wG_atE (by omega) eX_72) rfl rfl ⟨Nat.le_of_ble_eq_true rfl, Nat.le_of_ble_eq_true rfl⟩ rfl hl.1 rfl (Nat.le_of_ble_eq_true rfl) dX8_digest_112 (fun H locs hI => ?_)
              refine lv_lload_n hx hb dX8_digest_115 rfl (lv_at hl 1 rfl) ?_
              refine lv_aload_n hx hb dX8_digest_116 rfl (lv_at hl 0 rfl) ?_
              refine xg_get (C := RX8) (T := TX8) (M := 10) hx hb hown hG hI (by omega) eX_58 rfl inX8 4 (by decide) kf_X8_36 rfl dX8_digest_117 ?_
              refine xg_getN (C := RX5) (T := TX5) (M := 1) hx hb hown hG hI (by omega) eX_72 rfl inX5 0 (by decide) kf_X8_162 rfl dX8_digest_120 ?_
              refine xg_getN (C := RX6) (T := TX6) (M := 4) hx hb hown hG hI (by omega) (eX_T (t := 1) (by omega)) rfl inX6 3 (by decide) kf_X8_218 rfl dX8_digest_123 ?_
              obtain ⟨r27, hc, hE⟩ := bd1_some hE
              refine xc_S1 (rest := []) (c_X8_mixed hc) mw_X8_mixed km_X8_206 hx hb hml hown hG hI xA_of ⟨Nat.le_of_ble_eq_true rfl, Nat.le_of_ble_eq_true rfl⟩ rfl hl.1 rfl (Nat.le_of_ble_eq_true rfl) dX8_digest_126 (fun H locs hI => ?_)
              refine lv_lstore_n (lv' := [(1, .long r27), (0, .ref (A 58)), (3, .int x19)]) hx hb dX8_digest_129 rfl hl (by decide) rfl (fun ls hl => ?_)
              refine lv_iinc (v := x19 + 1) (lv' := [(3, .int (x19 + 1)), (1, .long r27), (0, .ref (A 58))]) hx hb dX8_digest_130 hl (k := 2) rfl rfl (by decide) rfl (fun ls hl => ?_)
              refine lv_goto (tgt := 87) hx hb dX8_digest_133 (by decide) ?_
              exact ih87 _ _ _ _ _ _ hE hI (lv_sub hl [2, 1, 0] rfl)
        exact hL87 _ _ _ _ _ _ _ hE hI (lv_sub hl [2, 1, 0] rfl)
      replace hE := hZ
      clear hZ
      have hL52 : ∀ (n52 : Nat) (x11 : Int64) (x12 : Int32) (mu13 : Mem) (H : Heap) (locs : List Loc) (ls : Array Slot), X8_digest_L52 n52 x11 x12 mu13 = some (x14, mu15) → xI D (va_A (wX A cI cZ cD u) s.heap.size) s.heap (wX A cI cZ cD mu13) H locs → lv_has ls 4 [(0, .ref (A 58)), (1, .long x11), (3, .int x12)] → W p l e (rmOf 6 137) s m ([.ref (A 58)] : List Value).toArray below meth c H locs 0 0 (xQ D (tyL cI cZ cD) below ([.ref (A 58)] : List Value).toArray s (wX A cI cZ cD u) (some (.long r)) (wX A cI cZ cD u1)) (F0 m 52 ls []) := by
        intro n52
        induction n52 with
        | zero =>
          intro x11 x12 mu13 H locs ls hE
          exact absurd hE (by simp [X8_digest_L52])
        | succ n52 ih52 =>
          intro x11 x12 mu13 H locs ls hE hI hl
          rw [X8_digest_L52] at hE
          refine lv_iload_n hx hb dX8_digest_52 rfl (lv_at hl 2 rfl) ?_
          refine lv_iconst (v := 3) hx hb dX8_digest_53 (by decide) ?_
          refine lv_icmp_gt (tgt := 73) hx hb dX8_digest_54 (by decide) (fun c54 => ?_) (fun c54 => ?_)
          · rw [if_pos c54] at hE
            obtain ⟨rfl, rfl⟩ := sm2 hE
            exact hX52_15 _ _ _ hI (lv_sub hl [0, 1] rfl)
          · rw [if_neg c54] at hE
            refine lv_lload_n hx hb dX8_digest_57 rfl (lv_at hl 1 rfl) ?_
            refine lv_aload_n hx hb dX8_digest_58 rfl (lv_at hl 0 rfl) ?_
            refine lv_iload_n hx hb dX8_digest_59 rfl (lv_at hl 2 rfl) ?_
            obtain ⟨r28, mu29, hc, hE⟩ := bd2_some hE
            refine xc_V1 (rest := [.long x11]) (c_X8_outline hc) mw_X8_outline km_X8_94 hx hb hml hown hG hI xA_of (wG_atE (by omega) eX_58) rfl rfl ⟨Nat.le_of_ble_eq_true rfl, Nat.le_of_ble_eq_true rfl⟩ rfl hl.1 rfl (Nat.le_of_ble_eq_true rfl) dX8_digest_60 (fun H locs hI => ?_)
            have hr28 : r28 < 25 := lt_X8_outline hc
            obtain ⟨r30, hc, hE⟩ := bd1_some hE
            refine xc_S1 (rest := []) (c_X8_mixedOutline (by omega) hc) mw_X8_mixedOutline km_X8_210 hx hb hml hown hG hI xA_of ⟨Nat.le_of_ble_eq_true rfl, Nat.le_of_ble_eq_true rfl⟩ rfl hl.1 rfl (Nat.le_of_ble_eq_true rfl) dX8_digest_63 (fun H locs hI => ?_)
            refine lv_lstore_n (lv' := [(1, .long r30), (0, .ref (A 58)), (3, .int x12)]) hx hb dX8_digest_66 rfl hl (by decide) rfl (fun ls hl => ?_)
            refine lv_iinc (v := x12 + 1) (lv' := [(3, .int (x12 + 1)), (1, .long r30), (0, .ref (A 58))]) hx hb dX8_digest_67 hl (k := 2) rfl rfl (by decide) rfl (fun ls hl => ?_)
            refine lv_goto (tgt := 52) hx hb dX8_digest_70 (by decide) ?_
            exact ih52 _ _ _ _ _ _ hE hI (lv_sub hl [2, 1, 0] rfl)
      exact hL52 _ _ _ _ _ _ _ hE hI (lv_sub hl [1, 2, 0] rfl)
    replace hE := hZ
    clear hZ
    have hL29 : ∀ (n29 : Nat) (x5 : Int64) (x6 : Int32) (mu7 : Mem) (H : Heap) (locs : List Loc) (ls : Array Slot), X8_digest_L29 n29 x5 x6 mu7 = some (x8, mu9) → xI D (va_A (wX A cI cZ cD u) s.heap.size) s.heap (wX A cI cZ cD mu7) H locs → lv_has ls 4 [(0, .ref (A 58)), (1, .long x5), (3, .int x6)] → W p l e (rmOf 6 137) s m ([.ref (A 58)] : List Value).toArray below meth c H locs 0 0 (xQ D (tyL cI cZ cD) below ([.ref (A 58)] : List Value).toArray s (wX A cI cZ cD u) (some (.long r)) (wX A cI cZ cD u1)) (F0 m 29 ls []) := by
      intro n29
      induction n29 with
      | zero =>
        intro x5 x6 mu7 H locs ls hE
        exact absurd hE (by simp [X8_digest_L29])
      | succ n29 ih29 =>
        intro x5 x6 mu7 H locs ls hE hI hl
        rw [X8_digest_L29] at hE
        refine lv_iload_n hx hb dX8_digest_29 rfl (lv_at hl 2 rfl) ?_
        refine lv_iconst (v := 3) hx hb dX8_digest_30 (by decide) ?_
        refine lv_icmp_gt (tgt := 50) hx hb dX8_digest_31 (by decide) (fun c31 => ?_) (fun c31 => ?_)
        · rw [if_pos c31] at hE
          obtain ⟨rfl, rfl⟩ := sm2 hE
          exact hX29_9 _ _ _ hI (lv_sub hl [0, 1] rfl)
        · rw [if_neg c31] at hE
          refine lv_lload_n hx hb dX8_digest_34 rfl (lv_at hl 1 rfl) ?_
          refine lv_aload_n hx hb dX8_digest_35 rfl (lv_at hl 0 rfl) ?_
          refine lv_iload_n hx hb dX8_digest_36 rfl (lv_at hl 2 rfl) ?_
          obtain ⟨r31, mu32, hc, hE⟩ := bd2_some hE
          refine xc_V1 (rest := [.long x5]) (c_X8_tellDesk hc) mw_X8_tellDesk km_X8_171 hx hb hml hown hG hI xA_of (wG_atE (by omega) eX_58) rfl rfl ⟨Nat.le_of_ble_eq_true rfl, Nat.le_of_ble_eq_true rfl⟩ rfl hl.1 rfl (Nat.le_of_ble_eq_true rfl) dX8_digest_37 (fun H locs hI => ?_)
          obtain ⟨r33, hc, hE⟩ := bd1_some hE
          refine xc_S1 (rest := []) (c_X8_mixed hc) mw_X8_mixed km_X8_206 hx hb hml hown hG hI xA_of ⟨Nat.le_of_ble_eq_true rfl, Nat.le_of_ble_eq_true rfl⟩ rfl hl.1 rfl (Nat.le_of_ble_eq_true rfl) dX8_digest_40 (fun H locs hI => ?_)
          refine lv_lstore_n (lv' := [(1, .long r33), (0, .ref (A 58)), (3, .int x6)]) hx hb dX8_digest_43 rfl hl (by decide) rfl (fun ls hl => ?_)
          refine lv_iinc (v := x6 + 1) (lv' := [(3, .int (x6 + 1)), (1, .long r33), (0, .ref (A 58))]) hx hb dX8_digest_44 hl (k := 2) rfl rfl (by decide) rfl (fun ls hl => ?_)
          refine lv_goto (tgt := 29) hx hb dX8_digest_47 (by decide) ?_
          exact ih29 _ _ _ _ _ _ hE hI (lv_sub hl [2, 1, 0] rfl)
    exact hL29 _ _ _ _ _ _ _ hE hI (lv_sub hl [1, 2, 0] rfl)
  replace hE := hZ
  clear hZ
  have hL6 : ∀ (n6 : Nat) (x1 : Int64) (x2 : Int32) (H : Heap) (locs : List Loc) (ls : Array Slot), X8_digest_L6 u n6 x1 x2 = some x3 → xI D (va_A (wX A cI cZ cD u) s.heap.size) s.heap (wX A cI cZ cD u) H locs → lv_has ls 4 [(0, .ref (A 58)), (1, .long x1), (3, .int x2)] → W p l e (rmOf 6 137) s m ([.ref (A 58)] : List Value).toArray below meth c H locs 0 0 (xQ D (tyL cI cZ cD) below ([.ref (A 58)] : List Value).toArray s (wX A cI cZ cD u) (some (.long r)) (wX A cI cZ cD u1)) (F0 m 6 ls []) := by
    intro n6
    induction n6 with
    | zero =>
      intro x1 x2 H locs ls hE
      exact absurd hE (by simp [X8_digest_L6])
    | succ n6 ih6 =>
      intro x1 x2 H locs ls hE hI hl
      rw [X8_digest_L6] at hE
      refine lv_iload_n hx hb dX8_digest_6 rfl (lv_at hl 2 rfl) ?_
      refine lv_iconst (v := 4) hx hb dX8_digest_7 (by decide) ?_
      refine lv_icmp_gt (tgt := 27) hx hb dX8_digest_8 (by decide) (fun c8 => ?_) (fun c8 => ?_)
      · rw [if_pos c8] at hE
        obtain rfl := sm1 hE
        exact hX6_3 _ _ _ hI (lv_sub hl [0, 1] rfl)
      · rw [if_neg c8] at hE
        refine lv_lload_n hx hb dX8_digest_11 rfl (lv_at hl 1 rfl) ?_
        refine lv_aload_n hx hb dX8_digest_12 rfl (lv_at hl 0 rfl) ?_
        refine lv_iload_n hx hb dX8_digest_13 rfl (lv_at hl 2 rfl) ?_
        obtain ⟨r34, hc, hE⟩ := bd1_some hE
        refine xc_V1 (rest := [.long x1]) (c_X8_tellCount hc) mw_X8_tellCount km_X8_201 hx hb hml hown hG hI xA_of (wG_atE (by omega) eX_58) rfl rfl ⟨Nat.le_of_ble_eq_true rfl, Nat.le_of_ble_eq_true rfl⟩ rfl hl.1 rfl (Nat.le_of_ble_eq_true rfl) dX8_digest_14 (fun H locs hI => ?_)
        obtain ⟨r35, hc, hE⟩ := bd1_some hE
        refine xc_S1 (rest := []) (c_X8_mixed hc) mw_X8_mixed km_X8_206 hx hb hml hown hG hI xA_of ⟨Nat.le_of_ble_eq_true rfl, Nat.le_of_ble_eq_true rfl⟩ rfl hl.1 rfl (Nat.le_of_ble_eq_true rfl) dX8_digest_17 (fun H locs hI => ?_)
        refine lv_lstore_n (lv' := [(1, .long r35), (0, .ref (A 58)), (3, .int x2)]) hx hb dX8_digest_20 rfl hl (by decide) rfl (fun ls hl => ?_)
        refine lv_iinc (v := x2 + 1) (lv' := [(3, .int (x2 + 1)), (1, .long r35), (0, .ref (A 58))]) hx hb dX8_digest_21 hl (k := 2) rfl rfl (by decide) rfl (fun ls hl => ?_)
        refine lv_goto (tgt := 6) hx hb dX8_digest_24 (by decide) ?_
        exact ih6 _ _ _ _ _ hE hI (lv_sub hl [2, 1, 0] rfl)
  exact hL6 _ _ _ _ _ _ hE hI (lv_sub hl [2, 1, 0] rfl)
