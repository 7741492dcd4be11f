def X0_copyFrom (u : Mem) (p0 : Nat) (p1 : Nat) : Option (Mem) :=
  (X4_copyFrom u (3 * p0) (3 * p1) : Option Mem).bind fun (mu1 : Mem) => (X4_copyFrom mu1 (3 * p0 + 1) (3 * p1 + 1) : Option Mem).bind fun (mu2 : Mem) => (X4_copyFrom mu2 (3 * p0 + 2) (3 * p1 + 2) : Option Mem).bind fun (mu3 : Mem) => (stF mu3 (50 + p0) 3 (mu3 (50 + p1) 3)).bind fun mu4 => (stF mu4 (50 + p0) 4 (mu4 (50 + p1) 4)).bind fun mu5 => some mu5
set_option maxHeartbeats 4000000 in
set_option maxRecDepth 100000 in
theorem c_X0_copyFrom {l : Launch} {D : va_G} {A : Nat → Nat} {cI cZ cD : ClassId} {u u1 : Mem} {p0 : Nat} {p1 : Nat} (hp0 : p0 < 8) (hp1 : p1 < 8) (hE : X0_copyFrom u p0 p1 = some (u1)) : Ct l yX0_copyFrom cX0_copyFrom 2 none (rmOf 2 39) D (tyL cI cZ cD) [.ref (A (50 + p0)), .ref (A (50 + p1))] (wX A cI cZ cD u) none (wX A cI cZ cD u1) := by
  refine Ct.ofW (by decide +kernel) (fun p e s m below meth c hC hI => ?_)
  obtain ⟨hx, hb, hml, hown, hr, hlk, hG⟩ := hC
  have hown : s.vm.findClass RX0 = some m.cls := hown
  have hl := lv_entry ([.ref (A (50 + p0)), .ref (A (50 + p1))] : List Value) (n := 2) (Nat.le_of_ble_eq_true rfl)
  rw [lg_entry_eq]
  generalize (lg_sl ([.ref (A (50 + p0)), .ref (A (50 + p1))] : List Value) ++ List.replicate (2 - (lg_sl ([.ref (A (50 + p0)), .ref (A (50 + p1))] : List Value)).length) Slot.unset).toArray = ls at hl ⊢
  have hl : lv_has ls 2 [(0, .ref (A (50 + p0))), (1, .ref (A (50 + p1)))] := hl
  unfold X0_copyFrom at hE
  refine lv_aload_n hx hb dX0_copyFrom_0 rfl (lv_at hl 0 rfl) ?_
  refine xg_get (C := RX0) (T := TX0) (M := 5) hx hb hown hG hI (by omega) (eX_D (d := p0) (by omega)) rfl inX0 0 (by decide) kf_X0_12 rfl dX0_copyFrom_1 ?_
  refine lv_aload_n hx hb dX0_copyFrom_4 rfl (lv_at hl 1 rfl) ?_
  refine xg_get (C := RX0) (T := TX0) (M := 5) hx hb hown hG hI (by omega) (eX_D (d := p1) (by omega)) rfl inX0 0 (by decide) kf_X0_12 rfl dX0_copyFrom_5 ?_
  obtain ⟨mu1, hc, hE⟩ := bd1_some hE
  refine xc_V0 (rest := []) (c_X4_copyFrom (by omega) (by omega) hc) mw_X4_copyFrom km_X0_31 hx hb hml hown hG hI xA_of (wG_atE (by omega) (eX_O (j := (3 * p0)) (by omega))) rfl rfl ⟨Nat.le_of_ble_eq_true rfl, Nat.le_of_ble_eq_true rfl⟩ rfl hl.1 rfl (Nat.le_of_ble_eq_true rfl) dX0_copyFrom_8 (fun H locs hI => ?_)
  refine lv_aload_n hx hb dX0_copyFrom_11 rfl (lv_at hl 0 rfl) ?_
  refine xg_get (C := RX0) (T := TX0) (M := 5) hx hb hown hG hI (by omega) (eX_D (d := p0) (by omega)) rfl inX0 1 (by decide) kf_X0_18 rfl dX0_copyFrom_12 ?_
  refine lv_aload_n hx hb dX0_copyFrom_15 rfl (lv_at hl 1 rfl) ?_
  refine xg_get (C := RX0) (T := TX0) (M := 5) hx hb hown hG hI (by omega) (eX_D (d := p1) (by omega)) rfl inX0 1 (by decide) kf_X0_18 rfl dX0_copyFrom_16 ?_
  obtain ⟨mu2, hc, hE⟩ := bd1_some hE
  refine xc_V0 (rest := []) (c_X4_copyFrom (by omega) (by omega) hc) mw_X4_copyFrom km_X0_31 hx hb hml hown hG hI xA_of (wG_atE (by omega) (eX_O (j := (3 * p0 + 1)) (by omega))) rfl rfl ⟨Nat.le_of_ble_eq_true rfl, Nat.le_of_ble_eq_true rfl⟩ rfl hl.1 rfl (Nat.le_of_ble_eq_true rfl) dX0_copyFrom_19 (fun H locs hI => ?_)
  refine lv_aload_n hx hb dX0_copyFrom_22 rfl (lv_at hl 0 rfl) ?_
  refine xg_get (C := RX0) (T := TX0) (M := 5) hx hb hown hG hI (by omega) (eX_D (d := p0) (by omega)) rfl inX0 2 (by decide) kf_X0_21 rfl dX0_copyFrom_23 ?_
  refine lv_aload_n hx hb dX0_copyFrom_26 rfl (lv_at hl 1 rfl) ?_
  refine xg_get (C := RX0) (T := TX0) (M := 5) hx hb hown hG hI (by omega) (eX_D (d := p1) (by omega)) rfl inX0 2 (by decide) kf_X0_21 rfl dX0_copyFrom_27 ?_
  obtain ⟨mu3, hc, hE⟩ := bd1_some hE
  refine xc_V0 (rest := []) (c_X4_copyFrom (by omega) (by omega) hc) mw_X4_copyFrom km_X0_31 hx hb hml hown hG hI xA_of (wG_atE (by omega) (eX_O (j := (3 * p0 + 2)) (by omega))) rfl rfl ⟨Nat.le_of_ble_eq_true rfl, Nat.le_of_ble_eq_true rfl⟩ rfl hl.1 rfl (Nat.le_of_ble_eq_true rfl) dX0_copyFrom_30 (fun H locs hI => ?_)
  refine lv_aload_n hx hb dX0_copyFrom_33 rfl (lv_at hl 0 rfl) ?_
  refine lv_aload_n hx hb dX0_copyFrom_34 rfl (lv_at hl 1 rfl) ?_
  refine xg_get (C := RX0) (T := TX0) (M := 5) hx hb hown hG hI (by omega) (eX_D (d := p1) (by omega)) rfl inX0 3 (by decide) kf_X0_24 rfl dX0_copyFrom_35 ?_
  obtain ⟨mu4, hu, hE⟩ := bd1_some hE
  refine xg_put (C := RX0) (T := TX0) (M := 5) hx hb hown hG hI (by omega) (eX_D (d := p0) (by omega)) rfl inX0 tyX0 tyX0_ok nmX0 3 (by decide) kf_X0_24 rfl (ty := .int) (by decide +kernel) rfl rfl (Nat.le_of_ble_eq_true rfl) (by rw [eX_D (d := p0) (by omega)]; rfl) hu dX0_copyFrom_38 (fun H locs hI => ?_)
  refine lv_aload_n hx hb dX0_copyFrom_41 rfl (lv_at hl 0 rfl) ?_
  refine lv_aload_n hx hb dX0_copyFrom_42 rfl (lv_at hl 1 rfl) ?_
  refine xg_get (C := RX0) (T := TX0) (M := 5) hx hb hown hG hI (by omega) (eX_D (d := p1) (by omega)) rfl inX0 4 (by decide) kf_X0_28 rfl dX0_copyFrom_43 ?_
  obtain ⟨mu5, hu, hE⟩ := bd1_some hE
  refine xg_put (C := RX0) (T := TX0) (M := 5) hx hb hown hG hI (by omega) (eX_D (d := p0) (by omega)) rfl inX0 tyX0 tyX0_ok nmX0 4 (by decide) kf_X0_28 rfl (ty := .int) (by decide +kernel) rfl rfl (Nat.le_of_ble_eq_true rfl) (by rw [eX_D (d := p0) (by omega)]; rfl) hu dX0_copyFrom_46 (fun H locs hI => ?_)
  obtain rfl := sm1 hE
  exact xr_v hx hb hr hlk hG hI dX0_copyFrom_49
def X0_outline (u : Mem) (p0 : Nat) (p1 : Int32) : Option (Nat) :=
  (if p1 = 1 then some (3 * p0 + 1) else (if p1 = 2 then some (3 * p0 + 2) else some (3 * p0)))
set_option maxHeartbeats 4000000 in
set_option maxRecDepth 100000 in
theorem c_X0_outline {l : Launch} {D : va_G} {A : Nat → Nat} {cI cZ cD : ClassId} {u : Mem} {p0 : Nat} {p1 : Int32} {r : Nat} (hp0 : p0 < 8) (hE : X0_outline u p0 p1 = some (r)) : Ct l yX0_outline cX0_outline 2 (some (.object "MergedOutline$Outline")) (rmOf 0 0) D (tyL cI cZ cD) [.ref (A (50 + p0)), .int p1] (wX A cI cZ cD u) (some (.ref (A r))) (wX A cI cZ cD u) := by
  refine Ct.ofW (by decide +kernel) (fun p e s m below meth c hC hI => ?_)
  obtain ⟨hx, hb, hml, hown, hr, hlk, hG⟩ := hC
  have hown : s.vm.findClass RX0 = some m.cls := hown
  have hl := lv_entry ([.ref (A (50 + p0)), .int p1] : List Value) (n := 2) (Nat.le_of_ble_eq_true rfl)
  rw [lg_entry_eq]
  generalize (lg_sl ([.ref (A (50 + p0)), .int p1] : List Value) ++ List.replicate (2 - (lg_sl ([.ref (A (50 + p0)), .int p1] : List Value)).length) Slot.unset).toArray = ls at hl ⊢
  have hl : lv_has ls 2 [(0, .ref (A (50 + p0))), (1, .int p1)] := hl
  unfold X0_outline at hE
  refine lv_iload_n hx hb dX0_outline_0 rfl (lv_at hl 1 rfl) ?_
  refine lv_iconst (v := 1) hx hb dX0_outline_1 (by decide) ?_
  refine lv_icmp_ne (tgt := 10) hx hb dX0_outline_2 (by decide) (fun c2 => ?_) (fun c2 => ?_)
  · rw [if_neg c2] at hE
    refine lv_iload_n hx hb dX0_outline_10 rfl (lv_at hl 1 rfl) ?_
    refine lv_iconst (v := 2) hx hb dX0_outline_11 (by decide) ?_
    refine lv_icmp_ne (tgt := 22) hx hb dX0_outline_12 (by decide) (fun c12 => ?_) (fun c12 => ?_)
    · rw [if_neg c12] at hE
      refine lv_aload_n hx hb dX0_outline_22 rfl (lv_at hl 0 rfl) ?_
      refine xg_get (C := RX0) (T := TX0) (M := 5) hx hb hown hG hI (by omega) (eX_D (d := p0) (by omega)) rfl inX0 0 (by decide) kf_X0_12 rfl dX0_outline_23 ?_
      obtain rfl := sm1 hE
      exact xr_a hx hb hr hlk (Or.inr ⟨_, rfl⟩) hG hI dX0_outline_26
    · rw [if_pos c12] at hE
      refine lv_aload_n hx hb dX0_outline_15 rfl (lv_at hl 0 rfl) ?_
      refine xg_get (C := RX0) (T := TX0) (M := 5) hx hb hown hG hI (by omega) (eX_D (d := p0) (by omega)) rfl inX0 2 (by decide) kf_X0_21 rfl dX0_outline_16 ?_
      refine lv_goto (tgt := 26) hx hb dX0_outline_19 (by decide) ?_
      obtain rfl := sm1 hE
      exact xr_a hx hb hr hlk (Or.inr ⟨_, rfl⟩) hG hI dX0_outline_26
  · rw [if_pos c2] at hE
    refine lv_aload_n hx hb dX0_outline_5 rfl (lv_at hl 0 rfl) ?_
    refine xg_get (C := RX0) (T := TX0) (M := 5) hx hb hown hG hI (by omega) (eX_D (d := p0) (by omega)) rfl inX0 1 (by decide) kf_X0_18 rfl dX0_outline_6 ?_
    obtain rfl := sm1 hE
    exact xr_a hx hb hr hlk (Or.inr ⟨_, rfl⟩) hG hI dX0_outline_9
theorem lt_X0_outline {u : Mem} {p0 : Nat} {p1 : Int32} {r : Nat} (hp0 : p0 < 8) (h : X0_outline u p0 p1 = some r) : r < 25 := by
  unfold X0_outline at h
  repeat' split at h
  all_goals (cases h; omega)
def X0_add (u : Mem) (p0 : Nat) (p1 : Int32) (p2 : Int32) (p3 : Int32) (p4 : Int32) (p5 : Int32) : Option (Int32 × Mem) :=
  (X8_isOwnOutline p1 : Option Bool).bind fun (r1 : Bool) => (if (b2i r1) = 0 then some ((-2), u) else (X8_isValue p4 : Option Bool).bind fun (r2 : Bool) => (if (b2i r2) = 0 then some ((-2), u) else (X8_isValue p5 : Option Bool).bind fun (r3 : Bool) => (if (b2i r3) = 0 then some ((-2), u) else (X0_outline u p0 p1 : Option Nat).bind fun (r4 : Nat) => (X4_holds (u (25 + r4)) p2 : Option Bool).bind fun (r5 : Bool) => (if (b2i r5) = 0 then some ((-2), u) else (if p3 < 0 then some ((-2), u) else (X4_childCount (u (25 + r4)) p2 : Option Int32).bind fun (r6 : Int32) => (if p3 ≤ r6 then (if (u (50 + p0) 4) < 16 then (stF u (50 + p0) 4 ((u (50 + p0) 4) + 1)).bind fun mu7 => (stO mu7 (25 + r4) (X4_attach (mu7 (25 + r4)) (u (50 + p0) 4) p2 p3) : Option Mem).bind fun (mu8 : Mem) => (stO mu8 (25 + r4) (X4_put (mu8 (25 + r4)) (u (50 + p0) 4) 2 p4) : Option Mem).bind fun (mu9 : Mem) => (stO mu9 (25 + r4) (X4_put (mu9 (25 + r4)) (u (50 + p0) 4) 3 p5) : Option Mem).bind fun (mu10 : Mem) => some (u (50 + p0) 4, mu10) else some ((-4), u)) else some ((-2), u)))))))
set_option maxHeartbeats 4000000 in
set_option maxRecDepth 100000 in
theorem c_X0_add {l : Launch} {D : va_G} {A : Nat → Nat} {cI cZ cD : ClassId} {u u1 : Mem} {p0 : Nat} {p1 : Int32} {p2 : Int32} {p3 : Int32} {p4 : Int32} {p5 : Int32} {r : Int32} (hp0 : p0 < 8) (hE : X0_add u p0 p1 p2 p3 p4 p5 = some (r, u1)) : Ct l yX0_add cX0_add 8 (some .int) (rmOf 3 70) D (tyL cI cZ cD) [.ref (A (50 + p0)), .int p1, .int p2, .int p3, .int p4, .int p5] (wX A cI cZ cD u) (some (.int r)) (wX A cI cZ cD u1) := by
  refine Ct.ofW (by decide +kernel) (fun p e s m below meth c hC hI => ?_)
  obtain ⟨hx, hb, hml, hown, hr, hlk, hG⟩ := hC
  have hown : s.vm.findClass RX0 = some m.cls := hown
  have hl := lv_entry ([.ref (A (50 + p0)), .int p1, .int p2, .int p3, .int p4, .int p5] : List Value) (n := 8) (Nat.le_of_ble_eq_true rfl)
  rw [lg_entry_eq]
  generalize (lg_sl ([.ref (A (50 + p0)), .int p1, .int p2, .int p3, .int p4, .int p5] : List Value) ++ List.replicate (8 - (lg_sl ([.ref (A (50 + p0)), .int p1, .int p2, .int p3, .int p4, .int p5] : List Value)).length) Slot.unset).toArray = ls at hl ⊢
  have hl : lv_has ls 8 [(0, .ref (A (50 + p0))), (1, .int p1), (2, .int p2), (3, .int p3), (4, .int p4), (5, .int p5)] := hl
  unfold X0_add at hE
  refine lv_iload_n hx hb dX0_add_0 rfl (lv_at hl 1 rfl) ?_
  obtain ⟨r1, hc, hE⟩ := bd1_some hE
  refine xc_SN1 (rest := []) (c_X8_isOwnOutline hc) mw_X8_isOwnOutline km_X0_35 hx hb hml hown hG hI xA_of ⟨Nat.le_of_ble_eq_true rfl, Nat.le_of_ble_eq_true rfl⟩ rfl hl.1 rfl (Nat.le_of_ble_eq_true rfl) dX0_add_1 (fun H locs hI => ?_)
  refine lv_if_eq (tgt := 23) hx hb dX0_add_4 (by decide) (fun c4 => ?_) (fun c4 => ?_)
  · rw [if_pos c4] at hE
    refine lv_bipush (v := (-2)) hx hb dX0_add_23 (by decide) ?_
    obtain ⟨rfl, rfl⟩ := sm2 hE
    exact xr_i hx hb hr hlk hG hI dX0_add_25
  · rw [if_neg c4] at hE
    refine lv_iload hx hb dX0_add_7 (lv_at hl 4 rfl) ?_
    obtain ⟨r2, hc, hE⟩ := bd1_some hE
    refine xc_SN1 (rest := []) (c_X8_isValue hc) mw_X8_isValue km_X0_39 hx hb hml hown hG hI xA_of ⟨Nat.le_of_ble_eq_true rfl, Nat.le_of_ble_eq_true rfl⟩ rfl hl.1 rfl (Nat.le_of_ble_eq_true rfl) dX0_add_9 (fun H locs hI => ?_)
    refine lv_if_eq (tgt := 23) hx hb dX0_add_12 (by decide) (fun c12 => ?_) (fun c12 => ?_)
    · rw [if_pos c12] at hE
      refine lv_bipush (v := (-2)) hx hb dX0_add_23 (by decide) ?_
      obtain ⟨rfl, rfl⟩ := sm2 hE
      exact xr_i hx hb hr hlk hG hI dX0_add_25
    · rw [if_neg c12] at hE
      refine lv_iload hx hb dX0_add_15 (lv_at hl 5 rfl) ?_
      obtain ⟨r3, hc, hE⟩ := bd1_some hE
      refine xc_SN1 (rest := []) (c_X8_isValue hc) mw_X8_isValue km_X0_39 hx hb hml hown hG hI xA_of ⟨Nat.le_of_ble_eq_true rfl, Nat.le_of_ble_eq_true rfl⟩ rfl hl.1 rfl (Nat.le_of_ble_eq_true rfl) dX0_add_17 (fun H locs hI => ?_)
      refine lv_if_ne (tgt := 26) hx hb dX0_add_20 (by decide) (fun c20 => ?_) (fun c20 => ?_)
      · rw [if_neg c20] at hE
        refine lv_aload_n hx hb dX0_add_26 rfl (lv_at hl 0 rfl) ?_
        refine lv_iload_n hx hb dX0_add_27 rfl (lv_at hl 1 rfl) ?_
        obtain ⟨r4, hc, hE⟩ := bd1_some hE
        refine xc_V1 (rest := []) (c_X0_outline (by omega) hc) mw_X0_outline km_X0_42 hx hb hml hown hG hI xA_of (wG_atE (by omega) (eX_D (d := p0) (by omega))) rfl rfl ⟨Nat.le_of_ble_eq_true rfl, Nat.le_of_ble_eq_true rfl⟩ rfl hl.1 rfl (Nat.le_of_ble_eq_true rfl) dX0_add_28 (fun H locs hI => ?_)
        have hr4 : r4 < 25 := lt_X0_outline (by omega) hc
        refine lv_astore (lv' := [(6, .ref (A r4)), (0, .ref (A (50 + p0))), (1, .int p1), (2, .int p2), (3, .int p3), (4, .int p4), (5, .int p5)]) hx hb dX0_add_31 hl (by decide) rfl (fun ls hl => ?_)
        refine lv_aload hx hb dX0_add_33 (lv_at hl 0 rfl) ?_
        refine lv_iload_n hx hb dX0_add_35 rfl (lv_at hl 3 rfl) ?_
        obtain ⟨r5, hc, hE⟩ := bd1_some hE
        refine xc_V1 (rest := []) (Ct.toXr (j := r4) (by omega) (c_X4_holds (OKX (j := r4) (by omega)) hc)) mw_X4_holds km_X0_46 hx hb hml hown hG hI xA_of (wG_atE (by omega) (eX_O (j := r4) (by omega))) rfl rfl ⟨Nat.le_of_ble_eq_true rfl, Nat.le_of_ble_eq_true rfl⟩ rfl hl.1 rfl (Nat.le_of_ble_eq_true rfl) dX0_add_36 (fun H locs hI => ?_)
        refine lv_if_eq (tgt := 56) hx hb dX0_add_39 (by decide) (fun c39 => ?_) (fun c39 => ?_)
        · rw [if_pos c39] at hE
          refine lv_bipush (v := (-2)) hx hb dX0_add_56 (by decide) ?_
          obtain ⟨rfl, rfl⟩ := sm2 hE
          exact xr_i hx hb hr hlk hG hI dX0_add_58
        · rw [if_neg c39] at hE
          refine lv_iload_n hx hb dX0_add_42 rfl (lv_at hl 4 rfl) ?_
          refine lv_if_lt (tgt := 56) hx hb dX0_add_43 (by decide) (fun c43 => ?_) (fun c43 => ?_)
          · rw [if_pos c43] at hE
            refine lv_bipush (v := (-2)) hx hb dX0_add_56 (by decide) ?_
            obtain ⟨rfl, rfl⟩ := sm2 hE
            exact xr_i hx hb hr hlk hG hI dX0_add_58
          · rw [if_neg c43] at hE
            refine lv_iload_n hx hb dX0_add_46 rfl (lv_at hl 4 rfl) ?_
            refine lv_aload hx hb dX0_add_47 (lv_at hl 0 rfl) ?_
            refine lv_iload_n hx hb dX0_add_49 rfl (lv_at hl 3 rfl) ?_
            obtain ⟨r6, hc, hE⟩ := bd1_some hE
            refine xc_V1 (rest := [.int p3]) (Ct.toXr (j := r4) (by omega) (c_X4_childCount (OKX (j := r4) (by omega)) hc)) mw_X4_childCount km_X0_49 hx hb hml hown hG hI xA_of (wG_atE (by omega) (eX_O (j := r4) (by omega))) rfl rfl ⟨Nat.le_of_ble_eq_true rfl, Nat.le_of_ble_eq_true rfl⟩ rfl hl.1 rfl (Nat.le_of_ble_eq_true rfl) dX0_add_50 (fun H locs hI => ?_)
            refine lv_icmp_le (tgt := 59) hx hb dX0_add_53 (by decide) (fun c53 => ?_) (fun c53 => ?_)
            · rw [if_pos c53] at hE
              refine lv_aload_n hx hb dX0_add_59 rfl (lv_at hl 1 rfl) ?_
              refine xg_get (C := RX0) (T := TX0) (M := 5) hx hb hown hG hI (by omega) (eX_D (d := p0) (by omega)) rfl inX0 4 (by decide) kf_X0_28 rfl dX0_add_60 ?_
              refine lv_bipush (v := 16) hx hb dX0_add_63 (by decide) ?_
              refine lv_icmp_lt (tgt := 71) hx hb dX0_add_65 (by decide) (fun c65 => ?_) (fun c65 => ?_)
              · rw [if_pos c65] at hE
                refine lv_aload_n hx hb dX0_add_71 rfl (lv_at hl 1 rfl) ?_
                refine xg_get (C := RX0) (T := TX0) (M := 5) hx hb hown hG hI (by omega) (eX_D (d := p0) (by omega)) rfl inX0 4 (by decide) kf_X0_28 rfl dX0_add_72 ?_
                refine lv_istore (lv' := [(7, .int (u (50 + p0) 4)), (6, .ref (A r4)), (0, .ref (A (50 + p0))), (1, .int p1), (2, .int p2), (3, .int p3), (4, .int p4), (5, .int p5)]) hx hb dX0_add_75 hl (by decide) rfl (fun ls hl => ?_)
                refine lv_aload_n hx hb dX0_add_77 rfl (lv_at hl 2 rfl) ?_
                refine lv_dup hx hb dX0_add_78 rfl ?_
                refine xg_get (C := RX0) (T := TX0) (M := 5) hx hb hown hG hI (by omega) (eX_D (d := p0) (by omega)) rfl inX0 4 (by decide) kf_X0_28 rfl dX0_add_79 ?_
                refine lv_iconst (v := 1) hx hb dX0_add_82 (by decide) ?_
                refine lv_iadd hx hb dX0_add_83 ?_
                obtain ⟨mu7, hu, hE⟩ := bd1_some hE
                refine xg_put (C := RX0) (T := TX0) (M := 5) hx hb hown hG hI (by omega) (eX_D (d := p0) (by omega)) rfl inX0 tyX0 tyX0_ok nmX0 4 (by decide) kf_X0_28 rfl (ty := .int) (by decide +kernel) rfl rfl (Nat.le_of_ble_eq_true rfl) (by rw [eX_D (d := p0) (by omega)]; rfl) hu dX0_add_84 (fun H locs hI => ?_)
                refine lv_aload hx hb dX0_add_87 (lv_at hl 1 rfl) ?_
                refine lv_iload hx hb dX0_add_89 (lv_at hl 0 rfl) ?_
                refine lv_iload_n hx hb dX0_add_91 rfl (lv_at hl 4 rfl) ?_
                refine lv_iload_n hx hb dX0_add_92 rfl (lv_at hl 5 rfl) ?_
                obtain ⟨mu8, hc, hE⟩ := bd1_some hE
                obtain ⟨ff, hf, hu⟩ := stO_some hc
                refine xc_V0 (rest := []) (Ct.toXw (j := r4) (by omega) hu (c_X4_attach (OKX (j := r4) (by omega)) hf)) mw_X4_attach km_X0_53 hx hb hml hown hG hI xA_of (wG_atE (by omega) (eX_O (j := r4) (by omega))) rfl rfl ⟨Nat.le_of_ble_eq_true rfl, Nat.le_of_ble_eq_true rfl⟩ rfl hl.1 rfl (Nat.le_of_ble_eq_true rfl) dX0_add_93 (fun H locs hI => ?_)
                refine lv_aload hx hb dX0_add_96 (lv_at hl 1 rfl) ?_
                refine lv_iload hx hb dX0_add_98 (lv_at hl 0 rfl) ?_
                refine lv_iconst (v := 2) hx hb dX0_add_100 (by decide) ?_
                refine lv_iload hx hb dX0_add_101 (lv_at hl 6 rfl) ?_
                obtain ⟨mu9, hc, hE⟩ := bd1_some hE
                obtain ⟨ff, hf, hu⟩ := stO_some hc
                refine xc_V0 (rest := []) (Ct.toXw (j := r4) (by omega) hu (c_X4_put (OKX (j := r4) (by omega)) hf)) mw_X4_put km_X0_57 hx hb hml hown hG hI xA_of (wG_atE (by omega) (eX_O (j := r4) (by omega))) rfl rfl ⟨Nat.le_of_ble_eq_true rfl, Nat.le_of_ble_eq_true rfl⟩ rfl hl.1 rfl (Nat.le_of_ble_eq_true rfl) dX0_add_103 (fun H locs hI => ?_)
                refine lv_aload hx hb dX0_add_106 (lv_at hl 1 rfl) ?_
                refine lv_iload hx hb dX0_add_108 (lv_at hl 0 rfl) ?_
                refine lv_iconst (v := 3) hx hb dX0_add_110 (by decide) ?_
                refine lv_iload hx hb dX0_add_111 (lv_at hl 7 rfl) ?_
                obtain ⟨mu10, hc, hE⟩ := bd1_some hE
                obtain ⟨ff, hf, hu⟩ := stO_some hc
                refine xc_V0 (rest := []) (Ct.toXw (j := r4) (by omega) hu (c_X4_put (OKX (j := r4) (by omega)) hf)) mw_X4_put km_X0_57 hx hb hml hown hG hI xA_of (wG_atE (by omega) (eX_O (j := r4) (by omega))) rfl rfl ⟨Nat.le_of_ble_eq_true rfl, Nat.le_of_ble_eq_true rfl⟩ rfl hl.1 rfl (Nat.le_of_ble_eq_true rfl) dX0_add_113 (fun H locs hI => ?_)
                refine lv_iload hx hb dX0_add_116 (lv_at hl 0 rfl) ?_
                obtain ⟨rfl, rfl⟩ := sm2 hE
                exact xr_i hx hb hr hlk hG hI dX0_add_118
              · rw [if_neg c65] at hE
                refine lv_bipush (v := (-4)) hx hb dX0_add_68 (by decide) ?_
                obtain ⟨rfl, rfl⟩ := sm2 hE
                exact xr_i hx hb hr hlk hG hI dX0_add_70
            · rw [if_neg c53] at hE
              refine lv_bipush (v := (-2)) hx hb dX0_add_56 (by decide) ?_
              obtain ⟨rfl, rfl⟩ := sm2 hE
              exact xr_i hx hb hr hlk hG hI dX0_add_58
      · rw [if_pos c20] at hE
        refine lv_bipush (v := (-2)) hx hb dX0_add_23 (by decide) ?_
        obtain ⟨rfl, rfl⟩ := sm2 hE
        exact xr_i hx hb hr hlk hG hI dX0_add_25
def X0_move (u : Mem) (p0 : Nat) (p1 : Int32) (p2 : Int32) (p3 : Int32) (p4 : Int32) : Option (Int32 × Mem) :=
  (X8_isOwnOutline p1 : Option Bool).bind fun (r1 : Bool) => (if (b2i r1) = 0 then some ((-2), u) else (if p2 = 0 then some ((-2), u) else (X0_outline u p0 p1 : Option Nat).bind fun (r2 : Nat) => (X4_holds (u (25 + r2)) p2 : Option Bool).bind fun (r3 : Bool) => (if (b2i r3) = 0 then some ((-2), u) else (X4_holds (u (25 + r2)) p3 : Option Bool).bind fun (r4 : Bool) => (if (b2i r4) = 0 then some ((-2), u) else (X4_childCount (u (25 + r2)) p3 : Option Int32).bind fun (r5 : Int32) => (X4_isChild (u (25 + r2)) p2 p3 : Option Bool).bind fun (r6 : Bool) => ((if (b2i r6) = 0 then some 0 else some 1) : Option Int32).bind fun (x7 : Int32) => (if p4 < 0 then some ((-2), u) else (if p4 ≤ (r5 - x7) then (X4_isBelow (u (25 + r2)) p3 p2 : Option Bool).bind fun (r9 : Bool) => (if (b2i r9) = 0 then (X4_trait (u (25 + r2)) p2 1 : Option Int32).bind fun (r10 : Int32) => (stO u (25 + r2) (X4_detach (u (25 + r2)) p2) : Option Mem).bind fun (mu11 : Mem) => (stO mu11 (25 + r2) (X4_attach (mu11 (25 + r2)) p2 p3 p4) : Option Mem).bind fun (mu12 : Mem) => some (r10, mu12) else some ((-3), u)) else some ((-2), u)))))))
set_option maxHeartbeats 4000000 in
set_option maxRecDepth 100000 in
theorem c_X0_move {l : Launch} {D : va_G} {A : Nat → Nat} {cI cZ cD : ClassId} {u u1 : Mem} {p0 : Nat} {p1 : Int32} {p2 : Int32} {p3 : Int32} {p4 : Int32} {r : Int32} (hp0 : p0 < 8) (hE : X0_move u p0 p1 p2 p3 p4 = some (r, u1)) : Ct l yX0_move cX0_move 8 (some .int) (rmOf 3 70) D (tyL cI cZ cD) [.ref (A (50 + p0)), .int p1, .int p2, .int p3, .int p4] (wX A cI cZ cD u) (some (.int r)) (wX A cI cZ cD u1) := by
  refine Ct.ofW (by decide +kernel) (fun p e s m below meth c hC hI => ?_)
  obtain ⟨hx, hb, hml, hown, hr, hlk, hG⟩ := hC
  have hown : s.vm.findClass RX0 = some m.cls := hown
  have hl := lv_entry ([.ref (A (50 + p0)), .int p1, .int p2, .int p3, .int p4] : List Value) (n := 8) (Nat.le_of_ble_eq_true rfl)
  rw [lg_entry_eq]
  generalize (lg_sl ([.ref (A (50 + p0)), .int p1, .int p2, .int p3, .int p4] : List Value) ++ List.replicate (8 - (lg_sl ([.ref (A (50 + p0)), .int p1, .int p2, .int p3, .int p4] : List Value)).length) Slot.unset).toArray = ls at hl ⊢
  have hl : lv_has ls 8 [(0, .ref (A (50 + p0))), (1, .int p1), (2, .int p2), (3, .int p3), (4, .int p4)] := hl
  unfold X0_move at hE
  refine lv_iload_n hx hb dX0_move_0 rfl (lv_at hl 1 rfl) ?_
  obtain ⟨r1, hc, hE⟩ := bd1_some hE
  refine xc_SN1 (rest := []) (c_X8_isOwnOutline hc) mw_X8_isOwnOutline km_X0_35 hx hb hml hown hG hI xA_of ⟨Nat.le_of_ble_eq_true rfl, Nat.le_of_ble_eq_true rfl⟩ rfl hl.1 rfl (Nat.le_of_ble_eq_true rfl) dX0_move_1 (fun H locs hI => ?_)
  refine lv_if_eq (tgt := 11) hx hb dX0_move_4 (by decide) (fun c4 => ?_) (fun c4 => ?_)
  · rw [if_pos c4] at hE
    refine lv_bipush (v := (-2)) hx hb dX0_move_11 (by decide) ?_
    obtain ⟨rfl, rfl⟩ := sm2 hE
    exact xr_i hx hb hr hlk hG hI dX0_move_13
  · rw [if_neg c4] at hE
    refine lv_iload_n hx hb dX0_move_7 rfl (lv_at hl 2 rfl) ?_
    refine lv_if_ne (tgt := 14) hx hb dX0_move_8 (by decide) (fun c8 => ?_) (fun c8 => ?_)
    · rw [if_neg c8] at hE
      refine lv_aload_n hx hb dX0_move_14 rfl (lv_at hl 0 rfl) ?_
      refine lv_iload_n hx hb dX0_move_15 rfl (lv_at hl 1 rfl) ?_
      obtain ⟨r2, hc, hE⟩ := bd1_some hE
      refine xc_V1 (rest := []) (c_X0_outline (by omega) hc) mw_X0_outline km_X0_42 hx hb hml hown hG hI xA_of (wG_atE (by omega) (eX_D (d := p0) (by omega))) rfl rfl ⟨Nat.le_of_ble_eq_true rfl, Nat.le_of_ble_eq_true rfl⟩ rfl hl.1 rfl (Nat.le_of_ble_eq_true rfl) dX0_move_16 (fun H locs hI => ?_)
      have hr2 : r2 < 25 := lt_X0_outline (by omega) hc
      refine lv_astore (lv' := [(5, .ref (A r2)), (0, .ref (A (50 + p0))), (1, .int p1), (2, .int p2), (3, .int p3), (4, .int p4)]) hx hb dX0_move_19 hl (by decide) rfl (fun ls hl => ?_)
      refine lv_aload hx hb dX0_move_21 (lv_at hl 0 rfl) ?_
      refine lv_iload_n hx hb dX0_move_23 rfl (lv_at hl 3 rfl) ?_
      obtain ⟨r3, hc, hE⟩ := bd1_some hE
      refine xc_V1 (rest := []) (Ct.toXr (j := r2) (by omega) (c_X4_holds (OKX (j := r2) (by omega)) hc)) mw_X4_holds km_X0_46 hx hb hml hown hG hI xA_of (wG_atE (by omega) (eX_O (j := r2) (by omega))) rfl rfl ⟨Nat.le_of_ble_eq_true rfl, Nat.le_of_ble_eq_true rfl⟩ rfl hl.1 rfl (Nat.le_of_ble_eq_true rfl) dX0_move_24 (fun H locs hI => ?_)
      refine lv_if_eq (tgt := 39) hx hb dX0_move_27 (by decide) (fun c27 => ?_) (fun c27 => ?_)
      · rw [if_pos c27] at hE
        refine lv_bipush (v := (-2)) hx hb dX0_move_39 (by decide) ?_
        obtain ⟨rfl, rfl⟩ := sm2 hE
        exact xr_i hx hb hr hlk hG hI dX0_move_41
      · rw [if_neg c27] at hE
        refine lv_aload hx hb dX0_move_30 (lv_at hl 0 rfl) ?_
        refine lv_iload_n hx hb dX0_move_32 rfl (lv_at hl 4 rfl) ?_
        obtain ⟨r4, hc, hE⟩ := bd1_some hE
        refine xc_V1 (rest := []) (Ct.toXr (j := r2) (by omega) (c_X4_holds (OKX (j := r2) (by omega)) hc)) mw_X4_holds km_X0_46 hx hb hml hown hG hI xA_of (wG_atE (by omega) (eX_O (j := r2) (by omega))) rfl rfl ⟨Nat.le_of_ble_eq_true rfl, Nat.le_of_ble_eq_true rfl⟩ rfl hl.1 rfl (Nat.le_of_ble_eq_true rfl) dX0_move_33 (fun H locs hI => ?_)
        refine lv_if_ne (tgt := 42) hx hb dX0_move_36 (by decide) (fun c36 => ?_) (fun c36 => ?_)
        · rw [if_neg c36] at hE
          refine lv_aload hx hb dX0_move_42 (lv_at hl 0 rfl) ?_
          refine lv_iload_n hx hb dX0_move_44 rfl (lv_at hl 4 rfl) ?_
          obtain ⟨r5, hc, hE⟩ := bd1_some hE
          refine xc_V1 (rest := []) (Ct.toXr (j := r2) (by omega) (c_X4_childCount (OKX (j := r2) (by omega)) hc)) mw_X4_childCount km_X0_49 hx hb hml hown hG hI xA_of (wG_atE (by omega) (eX_O (j := r2) (by omega))) rfl rfl ⟨Nat.le_of_ble_eq_true rfl, Nat.le_of_ble_eq_true rfl⟩ rfl hl.1 rfl (Nat.le_of_ble_eq_true rfl) dX0_move_45 (fun H locs hI => ?_)
          refine lv_aload hx hb dX0_move_48 (lv_at hl 0 rfl) ?_
          refine lv_iload_n hx hb dX0_move_50 rfl (lv_at hl 3 rfl) ?_
          refine lv_iload_n hx hb dX0_move_51 rfl (lv_at hl 4 rfl) ?_
          obtain ⟨r6, hc, hE⟩ := bd1_some hE
          refine xc_V1 (rest := [.int r5]) (Ct.toXr (j := r2) (by omega) (c_X4_isChild (OKX (j := r2) (by omega)) hc)) mw_X4_isChild km_X0_60 hx hb hml hown hG hI xA_of (wG_atE (by omega) (eX_O (j := r2) (by omega))) rfl rfl ⟨Nat.le_of_ble_eq_true rfl, Nat.le_of_ble_eq_true rfl⟩ rfl hl.1 rfl (Nat.le_of_ble_eq_true rfl) dX0_move_52 (fun H locs hI => ?_)
          obtain ⟨x7, hZ, hE⟩ := bd1_some hE
          have hJ63_7 : ∀ (H : Heap) (locs : List Loc) (ls : Array Slot), xI D (va_A (wX A cI cZ cD u) s.heap.size) s.heap (wX A cI cZ cD u) H locs → lv_has ls 8 [(2, .int p2), (3, .int p3), (4, .int p4), (5, .ref (A r2))] → W p l e (rmOf 3 70) s m ([.ref (A (50 + p0)), .int p1, .int p2, .int p3, .int p4] : List Value).toArray below meth c H locs 0 0 (xQ D (tyL cI cZ cD) below ([.ref (A (50 + p0)), .int p1, .int p2, .int p3, .int p4] : List Value).toArray s (wX A cI cZ cD u) (some (.int r)) (wX A cI cZ cD u1)) (F0 m 63 ls [.int x7, .int r5]) := by
            intro H locs ls hI hl
            clear hZ
            refine lv_isub hx hb dX0_move_63 ?_
            refine lv_istore (lv' := [(6, .int (r5 - x7)), (2, .int p2), (3, .int p3), (4, .int p4), (5, .ref (A r2))]) hx hb dX0_move_64 hl (by decide) rfl (fun ls hl => ?_)
            refine lv_iload hx hb dX0_move_66 (lv_at hl 3 rfl) ?_
            refine lv_if_lt (tgt := 78) hx hb dX0_move_68 (by decide) (fun c68 => ?_) (fun c68 => ?_)
            · rw [if_pos c68] at hE
              refine lv_bipush (v := (-2)) hx hb dX0_move_78 (by decide) ?_
              obtain ⟨rfl, rfl⟩ := sm2 hE
              exact xr_i hx hb hr hlk hG hI dX0_move_80
            · rw [if_neg c68] at hE
              refine lv_iload hx hb dX0_move_71 (lv_at hl 3 rfl) ?_
              refine lv_iload hx hb dX0_move_73 (lv_at hl 0 rfl) ?_
              refine lv_icmp_le (tgt := 81) hx hb dX0_move_75 (by decide) (fun c75 => ?_) (fun c75 => ?_)
              · rw [if_pos c75] at hE
                refine lv_aload hx hb dX0_move_81 (lv_at hl 4 rfl) ?_
                refine lv_iload_n hx hb dX0_move_83 rfl (lv_at hl 2 rfl) ?_
                refine lv_iload_n hx hb dX0_move_84 rfl (lv_at hl 1 rfl) ?_
                obtain ⟨r9, hc, hE⟩ := bd1_some hE
                refine xc_V1 (rest := []) (Ct.toXr (j := r2) (by omega) (c_X4_isBelow (OKX (j := r2) (by omega)) hc)) mw_X4_isBelow km_X0_64 hx hb hml hown hG hI xA_of (wG_atE (by omega) (eX_O (j := r2) (by omega))) rfl rfl ⟨Nat.le_of_ble_eq_true rfl, Nat.le_of_ble_eq_true rfl⟩ rfl hl.1 rfl (Nat.le_of_ble_eq_true rfl) dX0_move_85 (fun H locs hI => ?_)
                refine lv_if_eq (tgt := 94) hx hb dX0_move_88 (by decide) (fun c88 => ?_) (fun c88 => ?_)
                · rw [if_pos c88] at hE
                  refine lv_aload hx hb dX0_move_94 (lv_at hl 4 rfl) ?_
                  refine lv_iload_n hx hb dX0_move_96 rfl (lv_at hl 1 rfl) ?_
                  refine lv_iconst (v := 1) hx hb dX0_move_97 (by decide) ?_
                  obtain ⟨r10, hc, hE⟩ := bd1_some hE
                  refine xc_V1 (rest := []) (Ct.toXr (j := r2) (by omega) (c_X4_trait (OKX (j := r2) (by omega)) hc)) mw_X4_trait km_X0_67 hx hb hml hown hG hI xA_of (wG_atE (by omega) (eX_O (j := r2) (by omega))) rfl rfl ⟨Nat.le_of_ble_eq_true rfl, Nat.le_of_ble_eq_true rfl⟩ rfl hl.1 rfl (Nat.le_of_ble_eq_true rfl) dX0_move_98 (fun H locs hI => ?_)
                  refine lv_istore (lv' := [(7, .int r10), (6, .int (r5 - x7)), (2, .int p2), (3, .int p3), (4, .int p4), (5, .ref (A r2))]) hx hb dX0_move_101 hl (by decide) rfl (fun ls hl => ?_)
                  refine lv_aload hx hb dX0_move_103 (lv_at hl 5 rfl) ?_
                  refine lv_iload_n hx hb dX0_move_105 rfl (lv_at hl 2 rfl) ?_
                  obtain ⟨mu11, hc, hE⟩ := bd1_some hE
                  obtain ⟨ff, hf, hu⟩ := stO_some hc
                  refine xc_V0 (rest := []) (Ct.toXw (j := r2) (by omega) hu (c_X4_detach (OKX (j := r2) (by omega)) hf)) mw_X4_detach km_X0_71 hx hb hml hown hG hI xA_of (wG_atE (by omega) (eX_O (j := r2) (by omega))) rfl rfl ⟨Nat.le_of_ble_eq_true rfl, Nat.le_of_ble_eq_true rfl⟩ rfl hl.1 rfl (Nat.le_of_ble_eq_true rfl) dX0_move_106 (fun H locs hI => ?_)
                  refine lv_aload hx hb dX0_move_109 (lv_at hl 5 rfl) ?_
                  refine lv_iload_n hx hb dX0_move_111 rfl (lv_at hl 2 rfl) ?_
                  refine lv_iload_n hx hb dX0_move_112 rfl (lv_at hl 3 rfl) ?_
                  refine lv_iload hx hb dX0_move_113 (lv_at hl 4 rfl) ?_
                  obtain ⟨mu12, hc, hE⟩ := bd1_some hE
                  obtain ⟨ff, hf, hu⟩ := stO_some hc
                  refine xc_V0 (rest := []) (Ct.toXw (j := r2) (by omega) hu (c_X4_attach (OKX (j := r2) (by omega)) hf)) mw_X4_attach km_X0_53 hx hb hml hown hG hI xA_of (wG_atE (by omega) (eX_O (j := r2) (by omega))) rfl rfl ⟨Nat.le_of_ble_eq_true rfl, Nat.le_of_ble_eq_true rfl⟩ rfl hl.1 rfl (Nat.le_of_ble_eq_true rfl) dX0_move_115 (fun H locs hI => ?_)
                  refine lv_iload hx hb dX0_move_118 (lv_at hl 0 rfl) ?_
                  obtain ⟨rfl, rfl⟩ := sm2 hE
                  exact xr_i hx hb hr hlk hG hI dX0_move_120
                · rw [if_neg c88] at hE
                  refine lv_bipush (v := (-3)) hx hb dX0_move_91 (by decide) ?_
                  obtain ⟨rfl, rfl⟩ := sm2 hE
                  exact xr_i hx hb hr hlk hG hI dX0_move_93
              · rw [if_neg c75] at hE
                refine lv_bipush (v := (-2)) hx hb dX0_move_78 (by decide) ?_
                obtain ⟨rfl, rfl⟩ := sm2 hE
                exact xr_i hx hb hr hlk hG hI dX0_move_80
          replace hE := hZ
          clear hZ
          refine lv_if_eq (tgt := 62) hx hb dX0_move_55 (by decide) (fun c55 => ?_) (fun c55 => ?_)
          · rw [if_pos c55] at hE
            refine lv_iconst (v := 0) hx hb dX0_move_62 (by decide) ?_
            obtain rfl := sm1 hE
            exact hJ63_7 _ _ _ hI (lv_sub hl [3, 4, 5, 0] rfl)
          · rw [if_neg c55] at hE
            refine lv_iconst (v := 1) hx hb dX0_move_58 (by decide) ?_
            refine lv_goto (tgt := 63) hx hb dX0_move_59 (by decide) ?_
            obtain rfl := sm1 hE
            exact hJ63_7 _ _ _ hI (lv_sub hl [3, 4, 5, 0] rfl)
        · rw [if_pos c36] at hE
          refine lv_bipush (v := (-2)) hx hb dX0_move_39 (by decide) ?_
          obtain ⟨rfl, rfl⟩ := sm2 hE
          exact xr_i hx hb hr hlk hG hI dX0_move_41
    · rw [if_pos c8] at hE
      refine lv_bipush (v := (-2)) hx hb dX0_move_11 (by decide) ?_
      obtain ⟨rfl, rfl⟩ := sm2 hE
      exact xr_i hx hb hr hlk hG hI dX0_move_13
def X0_retell (u : Mem) (p0 : Nat) (p1 : Int32) (p2 : Int32) (p3 : Int32) (p4 : Int32) : Option (Int32 × Mem) :=
  (X8_isOwnOutline p1 : Option Bool).bind fun (r1 : Bool) => (if (b2i r1) = 0 then some ((-2), u) else (X8_isValue p4 : Option Bool).bind fun (r2 : Bool) => (if (b2i r2) = 0 then some ((-2), u) else (X0_outline u p0 p1 : Option Nat).bind fun (r3 : Nat) => (X4_holds (u (25 + r3)) p2 : Option Bool).bind fun (r4 : Bool) => (if (b2i r4) = 0 then some ((-2), u) else (X4_trait (u (25 + r3)) p2 p3 : Option Int32).bind fun (r5 : Int32) => (stO u (25 + r3) (X4_put (u (25 + r3)) p2 p3 p4) : Option Mem).bind fun (mu6 : Mem) => some (r5, mu6))))
set_option maxHeartbeats 4000000 in
set_option maxRecDepth 100000 in
theorem c_X0_retell {l : Launch} {D : va_G} {A : Nat → Nat} {cI cZ cD : ClassId} {u u1 : Mem} {p0 : Nat} {p1 : Int32} {p2 : Int32} {p3 : Int32} {p4 : Int32} {r : Int32} (hp0 : p0 < 8) (hE : X0_retell u p0 p1 p2 p3 p4 = some (r, u1)) : Ct l yX0_retell cX0_retell 7 (some .int) (rmOf 2 40) D (tyL cI cZ cD) [.ref (A (50 + p0)), .int p1, .int p2, .int p3, .int p4] (wX A cI cZ cD u) (some (.int r)) (wX A cI cZ cD u1) := by
  refine Ct.ofW (by decide +kernel) (fun p e s m below meth c hC hI => ?_)
  obtain ⟨hx, hb, hml, hown, hr, hlk, hG⟩ := hC
  have hown : s.vm.findClass RX0 = some m.cls := hown
  have hl := lv_entry ([.ref (A (50 + p0)), .int p1, .int p2, .int p3, .int p4] : List Value) (n := 7) (Nat.le_of_ble_eq_true rfl)
  rw [lg_entry_eq]
  generalize (lg_sl ([.ref (A (50 + p0)), .int p1, .int p2, .int p3, .int p4] : List Value) ++ List.replicate (7 - (lg_sl ([.ref (A (50 + p0)), .int p1, .int p2, .int p3, .int p4] : List Value)).length) Slot.unset).toArray = ls at hl ⊢
  have hl : lv_has ls 7 [(0, .ref (A (50 + p0))), (1, .int p1), (2, .int p2), (3, .int p3), (4, .int p4)] := hl
  unfold X0_retell at hE
  refine lv_iload_n hx hb dX0_retell_0 rfl (lv_at hl 1 rfl) ?_
  obtain ⟨r1, hc, hE⟩ := bd1_some hE
  refine xc_SN1 (rest := []) (c_X8_isOwnOutline hc) mw_X8_isOwnOutline km_X0_35 hx hb hml hown hG hI xA_of ⟨Nat.le_of_ble_eq_true rfl, Nat.le_of_ble_eq_true rfl⟩ rfl hl.1 rfl (Nat.le_of_ble_eq_true rfl) dX0_retell_1 (fun H locs hI => ?_)
  refine lv_if_eq (tgt := 15) hx hb dX0_retell_4 (by decide) (fun c4 => ?_) (fun c4 => ?_)
  · rw [if_pos c4] at hE
    refine lv_bipush (v := (-2)) hx hb dX0_retell_15 (by decide) ?_
    obtain ⟨rfl, rfl⟩ := sm2 hE
    exact xr_i hx hb hr hlk hG hI dX0_retell_17
  · rw [if_neg c4] at hE
    refine lv_iload hx hb dX0_retell_7 (lv_at hl 4 rfl) ?_
    obtain ⟨r2, hc, hE⟩ := bd1_some hE
    refine xc_SN1 (rest := []) (c_X8_isValue hc) mw_X8_isValue km_X0_39 hx hb hml hown hG hI xA_of ⟨Nat.le_of_ble_eq_true rfl, Nat.le_of_ble_eq_true rfl⟩ rfl hl.1 rfl (Nat.le_of_ble_eq_true rfl) dX0_retell_9 (fun H locs hI => ?_)
    refine lv_if_ne (tgt := 18) hx hb dX0_retell_12 (by decide) (fun c12 => ?_) (fun c12 => ?_)
    · rw [if_neg c12] at hE
      refine lv_aload_n hx hb dX0_retell_18 rfl (lv_at hl 0 rfl) ?_
      refine lv_iload_n hx hb dX0_retell_19 rfl (lv_at hl 1 rfl) ?_
      obtain ⟨r3, hc, hE⟩ := bd1_some hE
      refine xc_V1 (rest := []) (c_X0_outline (by omega) hc) mw_X0_outline km_X0_42 hx hb hml hown hG hI xA_of (wG_atE (by omega) (eX_D (d := p0) (by omega))) rfl rfl ⟨Nat.le_of_ble_eq_true rfl, Nat.le_of_ble_eq_true rfl⟩ rfl hl.1 rfl (Nat.le_of_ble_eq_true rfl) dX0_retell_20 (fun H locs hI => ?_)
      have hr3 : r3 < 25 := lt_X0_outline (by omega) hc
      refine lv_astore (lv' := [(5, .ref (A r3)), (0, .ref (A (50 + p0))), (1, .int p1), (2, .int p2), (3, .int p3), (4, .int p4)]) hx hb dX0_retell_23 hl (by decide) rfl (fun ls hl => ?_)
      refine lv_aload hx hb dX0_retell_25 (lv_at hl 0 rfl) ?_
      refine lv_iload_n hx hb dX0_retell_27 rfl (lv_at hl 3 rfl) ?_
      obtain ⟨r4, hc, hE⟩ := bd1_some hE
      refine xc_V1 (rest := []) (Ct.toXr (j := r3) (by omega) (c_X4_holds (OKX (j := r3) (by omega)) hc)) mw_X4_holds km_X0_46 hx hb hml hown hG hI xA_of (wG_atE (by omega) (eX_O (j := r3) (by omega))) rfl rfl ⟨Nat.le_of_ble_eq_true rfl, Nat.le_of_ble_eq_true rfl⟩ rfl hl.1 rfl (Nat.le_of_ble_eq_true rfl) dX0_retell_28 (fun H locs hI => ?_)
      refine lv_if_ne (tgt := 37) hx hb dX0_retell_31 (by decide) (fun c31 => ?_) (fun c31 => ?_)
      · rw [if_neg c31] at hE
        refine lv_aload hx hb dX0_retell_37 (lv_at hl 0 rfl) ?_
        refine lv_iload_n hx hb dX0_retell_39 rfl (lv_at hl 3 rfl) ?_
        refine lv_iload_n hx hb dX0_retell_40 rfl (lv_at hl 4 rfl) ?_
        obtain ⟨r5, hc, hE⟩ := bd1_some hE
        refine xc_V1 (rest := []) (Ct.toXr (j := r3) (by omega) (c_X4_trait (OKX (j := r3) (by omega)) hc)) mw_X4_trait km_X0_67 hx hb hml hown hG hI xA_of (wG_atE (by omega) (eX_O (j := r3) (by omega))) rfl rfl ⟨Nat.le_of_ble_eq_true rfl, Nat.le_of_ble_eq_true rfl⟩ rfl hl.1 rfl (Nat.le_of_ble_eq_true rfl) dX0_retell_41 (fun H locs hI => ?_)
        refine lv_istore (lv' := [(6, .int r5), (5, .ref (A r3)), (0, .ref (A (50 + p0))), (1, .int p1), (2, .int p2), (3, .int p3), (4, .int p4)]) hx hb dX0_retell_44 hl (by decide) rfl (fun ls hl => ?_)
        refine lv_aload hx hb dX0_retell_46 (lv_at hl 1 rfl) ?_
        refine lv_iload_n hx hb dX0_retell_48 rfl (lv_at hl 4 rfl) ?_
        refine lv_iload_n hx hb dX0_retell_49 rfl (lv_at hl 5 rfl) ?_
        refine lv_iload hx hb dX0_retell_50 (lv_at hl 6 rfl) ?_
        obtain ⟨mu6, hc, hE⟩ := bd1_some hE
        obtain ⟨ff, hf, hu⟩ := stO_some hc
        refine xc_V0 (rest := []) (Ct.toXw (j := r3) (by omega) hu (c_X4_put (OKX (j := r3) (by omega)) hf)) mw_X4_put km_X0_57 hx hb hml hown hG hI xA_of (wG_atE (by omega) (eX_O (j := r3) (by omega))) rfl rfl ⟨Nat.le_of_ble_eq_true rfl, Nat.le_of_ble_eq_true rfl⟩ rfl hl.1 rfl (Nat.le_of_ble_eq_true rfl) dX0_retell_52 (fun H locs hI => ?_)
        refine lv_iload hx hb dX0_retell_55 (lv_at hl 0 rfl) ?_
        obtain ⟨rfl, rfl⟩ := sm2 hE
        exact xr_i hx hb hr hlk hG hI dX0_retell_57
      · rw [if_pos c31] at hE
        refine lv_bipush (v := (-2)) hx hb dX0_retell_34 (by decide) ?_
        obtain ⟨rfl, rfl⟩ := sm2 hE
        exact xr_i hx hb hr hlk hG hI dX0_retell_36
    · rw [if_pos c12] at hE
      refine lv_bipush (v := (-2)) hx hb dX0_retell_15 (by decide) ?_
      obtain ⟨rfl, rfl⟩ := sm2 hE
      exact xr_i hx hb hr hlk hG hI dX0_retell_17
def X0_delete (u : Mem) (p0 : Nat) (p1 : Int32) (p2 : Int32) : Option (Int32 × Mem) :=
  (X8_isOwnOutline p1 : Option Bool).bind fun (r1 : Bool) => (if (b2i r1) = 0 then some ((-2), u) else (if p2 = 0 then some ((-2), u) else (X0_outline u p0 p1 : Option Nat).bind fun (r2 : Nat) => (X4_holds (u (25 + r2)) p2 : Option Bool).bind fun (r3 : Bool) => (if (b2i r3) = 0 then some ((-2), u) else (X0_outline u p0 p1 : Option Nat).bind fun (r4 : Nat) => bd2 (stO2 u (25 + r4) (X4_drop (u (25 + r4)) p2)) fun (r5 : Int32) (mu6 : Mem) => some (r5, mu6))))
set_option maxHeartbeats 4000000 in
set_option maxRecDepth 100000 in
theorem c_X0_delete {l : Launch} {D : va_G} {A : Nat → Nat} {cI cZ cD : ClassId} {u u1 : Mem} {p0 : Nat} {p1 : Int32} {p2 : Int32} {r : Int32} (hp0 : p0 < 8) (hE : X0_delete u p0 p1 p2 = some (r, u1)) : Ct l yX0_delete cX0_delete 3 (some .int) (rmOf 4 93) D (tyL cI cZ cD) [.ref (A (50 + p0)), .int p1, .int p2] (wX A cI cZ cD u) (some (.int r)) (wX A cI cZ cD u1) := by
  refine Ct.ofW (by decide +kernel) (fun p e s m below meth c hC hI => ?_)
  obtain ⟨hx, hb, hml, hown, hr, hlk, hG⟩ := hC
  have hown : s.vm.findClass RX0 = some m.cls := hown
  have hl := lv_entry ([.ref (A (50 + p0)), .int p1, .int p2] : List Value) (n := 3) (Nat.le_of_ble_eq_true rfl)
  rw [lg_entry_eq]
  generalize (lg_sl ([.ref (A (50 + p0)), .int p1, .int p2] : List Value) ++ List.replicate (3 - (lg_sl ([.ref (A (50 + p0)), .int p1, .int p2] : List Value)).length) Slot.unset).toArray = ls at hl ⊢
  have hl : lv_has ls 3 [(0, .ref (A (50 + p0))), (1, .int p1), (2, .int p2)] := hl
  unfold X0_delete at hE
  refine lv_iload_n hx hb dX0_delete_0 rfl (lv_at hl 1 rfl) ?_
  obtain ⟨r1, hc, hE⟩ := bd1_some hE
  refine xc_SN1 (rest := []) (c_X8_isOwnOutline hc) mw_X8_isOwnOutline km_X0_35 hx hb hml hown hG hI xA_of ⟨Nat.le_of_ble_eq_true rfl, Nat.le_of_ble_eq_true rfl⟩ rfl hl.1 rfl (Nat.le_of_ble_eq_true rfl) dX0_delete_1 (fun H locs hI => ?_)
  refine lv_if_eq (tgt := 23) hx hb dX0_delete_4 (by decide) (fun c4 => ?_) (fun c4 => ?_)
  · rw [if_pos c4] at hE
    refine lv_bipush (v := (-2)) hx hb dX0_delete_23 (by decide) ?_
    obtain ⟨rfl, rfl⟩ := sm2 hE
    exact xr_i hx hb hr hlk hG hI dX0_delete_25
  · rw [if_neg c4] at hE
    refine lv_iload_n hx hb dX0_delete_7 rfl (lv_at hl 2 rfl) ?_
    refine lv_if_eq (tgt := 23) hx hb dX0_delete_8 (by decide) (fun c8 => ?_) (fun c8 => ?_)
    · rw [if_pos c8] at hE
      refine lv_bipush (v := (-2)) hx hb dX0_delete_23 (by decide) ?_
      obtain ⟨rfl, rfl⟩ := sm2 hE
      exact xr_i hx hb hr hlk hG hI dX0_delete_25
    · rw [if_neg c8] at hE
      refine lv_aload_n hx hb dX0_delete_11 rfl (lv_at hl 0 rfl) ?_
      refine lv_iload_n hx hb dX0_delete_12 rfl (lv_at hl 1 rfl) ?_
      obtain ⟨r2, hc, hE⟩ := bd1_some hE
      refine xc_V1 (rest := []) (c_X0_outline (by omega) hc) mw_X0_outline km_X0_42 hx hb hml hown hG hI xA_of (wG_atE (by omega) (eX_D (d := p0) (by omega))) rfl rfl ⟨Nat.le_of_ble_eq_true rfl, Nat.le_of_ble_eq_true rfl⟩ rfl hl.1 rfl (Nat.le_of_ble_eq_true rfl) dX0_delete_13 (fun H locs hI => ?_)
      have hr2 : r2 < 25 := lt_X0_outline (by omega) hc
      refine lv_iload_n hx hb dX0_delete_16 rfl (lv_at hl 2 rfl) ?_
      obtain ⟨r3, hc, hE⟩ := bd1_some hE
      refine xc_V1 (rest := []) (Ct.toXr (j := r2) (by omega) (c_X4_holds (OKX (j := r2) (by omega)) hc)) mw_X4_holds km_X0_46 hx hb hml hown hG hI xA_of (wG_atE (by omega) (eX_O (j := r2) (by omega))) rfl rfl ⟨Nat.le_of_ble_eq_true rfl, Nat.le_of_ble_eq_true rfl⟩ rfl hl.1 rfl (Nat.le_of_ble_eq_true rfl) dX0_delete_17 (fun H locs hI => ?_)
      refine lv_if_ne (tgt := 26) hx hb dX0_delete_20 (by decide) (fun c20 => ?_) (fun c20 => ?_)
      · rw [if_neg c20] at hE
        refine lv_aload_n hx hb dX0_delete_26 rfl (lv_at hl 0 rfl) ?_
        refine lv_iload_n hx hb dX0_delete_27 rfl (lv_at hl 1 rfl) ?_
        obtain ⟨r4, hc, hE⟩ := bd1_some hE
        refine xc_V1 (rest := []) (c_X0_outline (by omega) hc) mw_X0_outline km_X0_42 hx hb hml hown hG hI xA_of (wG_atE (by omega) (eX_D (d := p0) (by omega))) rfl rfl ⟨Nat.le_of_ble_eq_true rfl, Nat.le_of_ble_eq_true rfl⟩ rfl hl.1 rfl (Nat.le_of_ble_eq_true rfl) dX0_delete_28 (fun H locs hI => ?_)
        have hr4 : r4 < 25 := lt_X0_outline (by omega) hc
        refine lv_iload_n hx hb dX0_delete_31 rfl (lv_at hl 2 rfl) ?_
        obtain ⟨r5, mu6, hc, hE⟩ := bd2_some hE
        obtain ⟨ff, hf, hu⟩ := stO2_some hc
        refine xc_V1 (rest := []) (Ct.toXw (j := r4) (by omega) hu (c_X4_drop (OKX (j := r4) (by omega)) hf)) mw_X4_drop km_X0_75 hx hb hml hown hG hI xA_of (wG_atE (by omega) (eX_O (j := r4) (by omega))) rfl rfl ⟨Nat.le_of_ble_eq_true rfl, Nat.le_of_ble_eq_true rfl⟩ rfl hl.1 rfl (Nat.le_of_ble_eq_true rfl) dX0_delete_32 (fun H locs hI => ?_)
        obtain ⟨rfl, rfl⟩ := sm2 hE
        exact xr_i hx hb hr hlk hG hI dX0_delete_35
      · rw [if_pos c20] at hE
        refine lv_bipush (v := (-2)) hx hb dX0_delete_23 (by decide) ?_
        obtain ⟨rfl, rfl⟩ := sm2 hE
        exact xr_i hx hb hr hlk hG hI dX0_delete_25
def X0_fork (u : Mem) (p0 : Nat) : Option (Int32 × Mem) :=
  (X4_copyFrom u (3 * p0 + 1) (3 * p0) : Option Mem).bind fun (mu1 : Mem) => (X4_copyFrom mu1 (3 * p0 + 2) (3 * p0) : Option Mem).bind fun (mu2 : Mem) => (X4_count (mu2 (25 + (3 * p0))) : Option Int32).bind fun (r3 : Int32) => some (r3, mu2)
set_option maxHeartbeats 4000000 in
set_option maxRecDepth 100000 in
theorem c_X0_fork {l : Launch} {D : va_G} {A : Nat → Nat} {cI cZ cD : ClassId} {u u1 : Mem} {p0 : Nat} {r : Int32} (hp0 : p0 < 8) (hE : X0_fork u p0 = some (r, u1)) : Ct l yX0_fork cX0_fork 1 (some .int) (rmOf 2 43) D (tyL cI cZ cD) [.ref (A (50 + p0))] (wX A cI cZ cD u) (some (.int r)) (wX A cI cZ cD u1) := by
  refine Ct.ofW (by decide +kernel) (fun p e s m below meth c hC hI => ?_)
  obtain ⟨hx, hb, hml, hown, hr, hlk, hG⟩ := hC
  have hown : s.vm.findClass RX0 = some m.cls := hown
  have hl := lv_entry ([.ref (A (50 + p0))] : List Value) (n := 1) (Nat.le_of_ble_eq_true rfl)
  rw [lg_entry_eq]
  generalize (lg_sl ([.ref (A (50 + p0))] : List Value) ++ List.replicate (1 - (lg_sl ([.ref (A (50 + p0))] : List Value)).length) Slot.unset).toArray = ls at hl ⊢
  have hl : lv_has ls 1 [(0, .ref (A (50 + p0)))] := hl
  unfold X0_fork at hE
  refine lv_aload_n hx hb dX0_fork_0 rfl (lv_at hl 0 rfl) ?_
  refine xg_get (C := RX0) (T := TX0) (M := 5) hx hb hown hG hI (by omega) (eX_D (d := p0) (by omega)) rfl inX0 1 (by decide) kf_X0_18 rfl dX0_fork_1 ?_
  refine lv_aload_n hx hb dX0_fork_4 rfl (lv_at hl 0 rfl) ?_
  refine xg_get (C := RX0) (T := TX0) (M := 5) hx hb hown hG hI (by omega) (eX_D (d := p0) (by omega)) rfl inX0 0 (by decide) kf_X0_12 rfl dX0_fork_5 ?_
  obtain ⟨mu1, hc, hE⟩ := bd1_some hE
  refine xc_V0 (rest := []) (c_X4_copyFrom (by omega) (by omega) hc) mw_X4_copyFrom km_X0_31 hx hb hml hown hG hI xA_of (wG_atE (by omega) (eX_O (j := (3 * p0 + 1)) (by omega))) rfl rfl ⟨Nat.le_of_ble_eq_true rfl, Nat.le_of_ble_eq_true rfl⟩ rfl hl.1 rfl (Nat.le_of_ble_eq_true rfl) dX0_fork_8 (fun H locs hI => ?_)
  refine lv_aload_n hx hb dX0_fork_11 rfl (lv_at hl 0 rfl) ?_
  refine xg_get (C := RX0) (T := TX0) (M := 5) hx hb hown hG hI (by omega) (eX_D (d := p0) (by omega)) rfl inX0 2 (by decide) kf_X0_21 rfl dX0_fork_12 ?_
  refine lv_aload_n hx hb dX0_fork_15 rfl (lv_at hl 0 rfl) ?_
  refine xg_get (C := RX0) (T := TX0) (M := 5) hx hb hown hG hI (by omega) (eX_D (d := p0) (by omega)) rfl inX0 0 (by decide) kf_X0_12 rfl dX0_fork_16 ?_
  obtain ⟨mu2, hc, hE⟩ := bd1_some hE
  refine xc_V0 (rest := []) (c_X4_copyFrom (by omega) (by omega) hc) mw_X4_copyFrom km_X0_31 hx hb hml hown hG hI xA_of (wG_atE (by omega) (eX_O (j := (3 * p0 + 2)) (by omega))) rfl rfl ⟨Nat.le_of_ble_eq_true rfl, Nat.le_of_ble_eq_true rfl⟩ rfl hl.1 rfl (Nat.le_of_ble_eq_true rfl) dX0_fork_19 (fun H locs hI => ?_)
  refine lv_aload_n hx hb dX0_fork_22 rfl (lv_at hl 0 rfl) ?_
  refine xg_get (C := RX0) (T := TX0) (M := 5) hx hb hown hG hI (by omega) (eX_D (d := p0) (by omega)) rfl inX0 0 (by decide) kf_X0_12 rfl dX0_fork_23 ?_
  obtain ⟨r3, hc, hE⟩ := bd1_some hE
  refine xc_V1 (rest := []) (Ct.toXr (j := (3 * p0)) (by omega) (c_X4_count (OKX (j := (3 * p0)) (by omega)) hc)) mw_X4_count km_X0_78 hx hb hml hown hG hI xA_of (wG_atE (by omega) (eX_O (j := (3 * p0)) (by omega))) rfl rfl ⟨Nat.le_of_ble_eq_true rfl, Nat.le_of_ble_eq_true rfl⟩ rfl hl.1 rfl (Nat.le_of_ble_eq_true rfl) dX0_fork_26 (fun H locs hI => ?_)
  obtain ⟨rfl, rfl⟩ := sm2 hE
  exact xr_i hx hb hr hlk hG hI dX0_fork_29
def X0_prefer (u : Mem) (p0 : Nat) (p1 : Int32) : Option (Int32 × Mem) :=
  (X8_isSide p1 : Option Bool).bind fun (r1 : Bool) => (if (b2i r1) = 0 then some ((-2), u) else (stF u (50 + p0) 3 p1).bind fun mu2 => some (u (50 + p0) 3, mu2))
set_option maxHeartbeats 4000000 in
set_option maxRecDepth 100000 in
theorem c_X0_prefer {l : Launch} {D : va_G} {A : Nat → Nat} {cI cZ cD : ClassId} {u u1 : Mem} {p0 : Nat} {p1 : Int32} {r : Int32} (hp0 : p0 < 8) (hE : X0_prefer u p0 p1 = some (r, u1)) : Ct l yX0_prefer cX0_prefer 3 (some .int) (rmOf 1 20) D (tyL cI cZ cD) [.ref (A (50 + p0)), .int p1] (wX A cI cZ cD u) (some (.int r)) (wX A cI cZ cD u1) := by
  refine Ct.ofW (by decide +kernel) (fun p e s m below meth c hC hI => ?_)
  obtain ⟨hx, hb, hml, hown, hr, hlk, hG⟩ := hC
  have hown : s.vm.findClass RX0 = some m.cls := hown
  have hl := lv_entry ([.ref (A (50 + p0)), .int p1] : List Value) (n := 3) (Nat.le_of_ble_eq_true rfl)
  rw [lg_entry_eq]
  generalize (lg_sl ([.ref (A (50 + p0)), .int p1] : List Value) ++ List.replicate (3 - (lg_sl ([.ref (A (50 + p0)), .int p1] : List Value)).length) Slot.unset).toArray = ls at hl ⊢
  have hl : lv_has ls 3 [(0, .ref (A (50 + p0))), (1, .int p1)] := hl
  unfold X0_prefer at hE
  refine lv_iload_n hx hb dX0_prefer_0 rfl (lv_at hl 1 rfl) ?_
  obtain ⟨r1, hc, hE⟩ := bd1_some hE
  refine xc_SN1 (rest := []) (c_X8_isSide hc) mw_X8_isSide km_X0_82 hx hb hml hown hG hI xA_of ⟨Nat.le_of_ble_eq_true rfl, Nat.le_of_ble_eq_true rfl⟩ rfl hl.1 rfl (Nat.le_of_ble_eq_true rfl) dX0_prefer_1 (fun H locs hI => ?_)
  refine lv_if_ne (tgt := 10) hx hb dX0_prefer_4 (by decide) (fun c4 => ?_) (fun c4 => ?_)
  · rw [if_neg c4] at hE
    refine lv_aload_n hx hb dX0_prefer_10 rfl (lv_at hl 0 rfl) ?_
    refine xg_get (C := RX0) (T := TX0) (M := 5) hx hb hown hG hI (by omega) (eX_D (d := p0) (by omega)) rfl inX0 3 (by decide) kf_X0_24 rfl dX0_prefer_11 ?_
    refine lv_istore_n (lv' := [(2, .int (u (50 + p0) 3)), (0, .ref (A (50 + p0))), (1, .int p1)]) hx hb dX0_prefer_14 rfl hl (by decide) rfl (fun ls hl => ?_)
    refine lv_aload_n hx hb dX0_prefer_15 rfl (lv_at hl 1 rfl) ?_
    refine lv_iload_n hx hb dX0_prefer_16 rfl (lv_at hl 2 rfl) ?_
    obtain ⟨mu2, hu, hE⟩ := bd1_some hE
    refine xg_put (C := RX0) (T := TX0) (M := 5) hx hb hown hG hI (by omega) (eX_D (d := p0) (by omega)) rfl inX0 tyX0 tyX0_ok nmX0 3 (by decide) kf_X0_24 rfl (ty := .int) (by decide +kernel) rfl rfl (Nat.le_of_ble_eq_true rfl) (by rw [eX_D (d := p0) (by omega)]; rfl) hu dX0_prefer_17 (fun H locs hI => ?_)
    refine lv_iload_n hx hb dX0_prefer_20 rfl (lv_at hl 0 rfl) ?_
    obtain ⟨rfl, rfl⟩ := sm2 hE
    exact xr_i hx hb hr hlk hG hI dX0_prefer_21
  · rw [if_pos c4] at hE
    refine lv_bipush (v := (-2)) hx hb dX0_prefer_7 (by decide) ?_
    obtain ⟨rfl, rfl⟩ := sm2 hE
    exact xr_i hx hb hr hlk hG hI dX0_prefer_9
def X0_preferredSide (u : Mem) (p0 : Nat) : Option (Nat) :=
  (if (u (50 + p0) 3) = 2 then some (3 * p0 + 2) else some (3 * p0 + 1))
set_option maxHeartbeats 4000000 in
set_option maxRecDepth 100000 in
theorem c_X0_preferredSide {l : Launch} {D : va_G} {A : Nat → Nat} {cI cZ cD : ClassId} {u : Mem} {p0 : Nat} {r : Nat} (hp0 : p0 < 8) (hE : X0_preferredSide u p0 = some (r)) : Ct l yX0_preferredSide cX0_preferredSide 1 (some (.object "MergedOutline$Outline")) (rmOf 0 0) D (tyL cI cZ cD) [.ref (A (50 + p0))] (wX A cI cZ cD u) (some (.ref (A r))) (wX A cI cZ cD u) := by
  refine Ct.ofW (by decide +kernel) (fun p e s m below meth c hC hI => ?_)
  obtain ⟨hx, hb, hml, hown, hr, hlk, hG⟩ := hC
  have hown : s.vm.findClass RX0 = some m.cls := hown
  have hl := lv_entry ([.ref (A (50 + p0))] : List Value) (n := 1) (Nat.le_of_ble_eq_true rfl)
  rw [lg_entry_eq]
  generalize (lg_sl ([.ref (A (50 + p0))] : List Value) ++ List.replicate (1 - (lg_sl ([.ref (A (50 + p0))] : List Value)).length) Slot.unset).toArray = ls at hl ⊢
  have hl : lv_has ls 1 [(0, .ref (A (50 + p0)))] := hl
  unfold X0_preferredSide at hE
  refine lv_aload_n hx hb dX0_preferredSide_0 rfl (lv_at hl 0 rfl) ?_
  refine xg_get (C := RX0) (T := TX0) (M := 5) hx hb hown hG hI (by omega) (eX_D (d := p0) (by omega)) rfl inX0 3 (by decide) kf_X0_24 rfl dX0_preferredSide_1 ?_
  refine lv_iconst (v := 2) hx hb dX0_preferredSide_4 (by decide) ?_
  refine lv_icmp_ne (tgt := 15) hx hb dX0_preferredSide_5 (by decide) (fun c5 => ?_) (fun c5 => ?_)
  · rw [if_neg c5] at hE
    refine lv_aload_n hx hb dX0_preferredSide_15 rfl (lv_at hl 0 rfl) ?_
    refine xg_get (C := RX0) (T := TX0) (M := 5) hx hb hown hG hI (by omega) (eX_D (d := p0) (by omega)) rfl inX0 1 (by decide) kf_X0_18 rfl dX0_preferredSide_16 ?_
    obtain rfl := sm1 hE
    exact xr_a hx hb hr hlk (Or.inr ⟨_, rfl⟩) hG hI dX0_preferredSide_19
  · rw [if_pos c5] at hE
    refine lv_aload_n hx hb dX0_preferredSide_8 rfl (lv_at hl 0 rfl) ?_
    refine xg_get (C := RX0) (T := TX0) (M := 5) hx hb hown hG hI (by omega) (eX_D (d := p0) (by omega)) rfl inX0 2 (by decide) kf_X0_21 rfl dX0_preferredSide_9 ?_
    refine lv_goto (tgt := 19) hx hb dX0_preferredSide_12 (by decide) ?_
    obtain rfl := sm1 hE
    exact xr_a hx hb hr hlk (Or.inr ⟨_, rfl⟩) hG hI dX0_preferredSide_19
theorem lt_X0_preferredSide {u : Mem} {p0 : Nat} {r : Nat} (hp0 : p0 < 8) (h : X0_preferredSide u p0 = some r) : r < 25 := by
  unfold X0_preferredSide at h
  repeat' split at h
  all_goals (cases h; omega)
def X0_otherSide (u : Mem) (p0 : Nat) : Option (Nat) :=
  (if (u (50 + p0) 3) = 2 then some (3 * p0 + 1) else some (3 * p0 + 2))
set_option maxHeartbeats 4000000 in
set_option maxRecDepth 100000 in
theorem c_X0_otherSide {l : Launch} {D : va_G} {A : Nat → Nat} {cI cZ cD : ClassId} {u : Mem} {p0 : Nat} {r : Nat} (hp0 : p0 < 8) (hE : X0_otherSide u p0 = some (r)) : Ct l yX0_otherSide cX0_otherSide 1 (some (.object "MergedOutline$Outline")) (rmOf 0 0) D (tyL cI cZ cD) [.ref (A (50 + p0))] (wX A cI cZ cD u) (some (.ref (A r))) (wX A cI cZ cD u) := by
  refine Ct.ofW (by decide +kernel) (fun p e s m below meth c hC hI => ?_)
  obtain ⟨hx, hb, hml, hown, hr, hlk, hG⟩ := hC
  have hown : s.vm.findClass RX0 = some m.cls := hown
  have hl := lv_entry ([.ref (A (50 + p0))] : List Value) (n := 1) (Nat.le_of_ble_eq_true rfl)
  rw [lg_entry_eq]
  generalize (lg_sl ([.ref (A (50 + p0))] : List Value) ++ List.replicate (1 - (lg_sl ([.ref (A (50 + p0))] : List Value)).length) Slot.unset).toArray = ls at hl ⊢
  have hl : lv_has ls 1 [(0, .ref (A (50 + p0)))] := hl
  unfold X0_otherSide at hE
  refine lv_aload_n hx hb dX0_otherSide_0 rfl (lv_at hl 0 rfl) ?_
  refine xg_get (C := RX0) (T := TX0) (M := 5) hx hb hown hG hI (by omega) (eX_D (d := p0) (by omega)) rfl inX0 3 (by decide) kf_X0_24 rfl dX0_otherSide_1 ?_
  refine lv_iconst (v := 2) hx hb dX0_otherSide_4 (by decide) ?_
  refine lv_icmp_ne (tgt := 15) hx hb dX0_otherSide_5 (by decide) (fun c5 => ?_) (fun c5 => ?_)
  · rw [if_neg c5] at hE
    refine lv_aload_n hx hb dX0_otherSide_15 rfl (lv_at hl 0 rfl) ?_
    refine xg_get (C := RX0) (T := TX0) (M := 5) hx hb hown hG hI (by omega) (eX_D (d := p0) (by omega)) rfl inX0 2 (by decide) kf_X0_21 rfl dX0_otherSide_16 ?_
    obtain rfl := sm1 hE
    exact xr_a hx hb hr hlk (Or.inr ⟨_, rfl⟩) hG hI dX0_otherSide_19
  · rw [if_pos c5] at hE
    refine lv_aload_n hx hb dX0_otherSide_8 rfl (lv_at hl 0 rfl) ?_
    refine xg_get (C := RX0) (T := TX0) (M := 5) hx hb hown hG hI (by omega) (eX_D (d := p0) (by omega)) rfl inX0 1 (by decide) kf_X0_18 rfl dX0_otherSide_9 ?_
    refine lv_goto (tgt := 19) hx hb dX0_otherSide_12 (by decide) ?_
    obtain rfl := sm1 hE
    exact xr_a hx hb hr hlk (Or.inr ⟨_, rfl⟩) hG hI dX0_otherSide_19
theorem lt_X0_otherSide {u : Mem} {p0 : Nat} {r : Nat} (hp0 : p0 < 8) (h : X0_otherSide u p0 = some r) : r < 25 := by
  unfold X0_otherSide at h
  repeat' split at h
  all_goals (cases h; omega)
def X0_adopt (u : Mem) (p0 : Nat) (p1 : Nat) : Option (Int32 × Mem) :=
  (X4_copyFrom u (3 * p0) p1 : Option Mem).bind fun (mu1 : Mem) => bd2 (X0_fork mu1 p0) fun (r2 : Int32) (mu3 : Mem) => some (r2, mu3)
set_option maxHeartbeats 4000000 in
set_option maxRecDepth 100000 in
theorem c_X0_adopt {l : Launch} {D : va_G} {A : Nat → Nat} {cI cZ cD : ClassId} {u u1 : Mem} {p0 : Nat} {p1 : Nat} {r : Int32} (hp0 : p0 < 8) (hp1 : p1 < 25) (hE : X0_adopt u p0 p1 = some (r, u1)) : Ct l yX0_adopt cX0_adopt 2 (some .int) (rmOf 3 63) D (tyL cI cZ cD) [.ref (A (50 + p0)), .ref (A p1)] (wX A cI cZ cD u) (some (.int r)) (wX A cI cZ cD u1) := by
  refine Ct.ofW (by decide +kernel) (fun p e s m below meth c hC hI => ?_)
  obtain ⟨hx, hb, hml, hown, hr, hlk, hG⟩ := hC
  have hown : s.vm.findClass RX0 = some m.cls := hown
  have hl := lv_entry ([.ref (A (50 + p0)), .ref (A p1)] : List Value) (n := 2) (Nat.le_of_ble_eq_true rfl)
  rw [lg_entry_eq]
  generalize (lg_sl ([.ref (A (50 + p0)), .ref (A p1)] : List Value) ++ List.replicate (2 - (lg_sl ([.ref (A (50 + p0)), .ref (A p1)] : List Value)).length) Slot.unset).toArray = ls at hl ⊢
  have hl : lv_has ls 2 [(0, .ref (A (50 + p0))), (1, .ref (A p1))] := hl
  unfold X0_adopt at hE
  refine lv_aload_n hx hb dX0_adopt_0 rfl (lv_at hl 0 rfl) ?_
  refine xg_get (C := RX0) (T := TX0) (M := 5) hx hb hown hG hI (by omega) (eX_D (d := p0) (by omega)) rfl inX0 0 (by decide) kf_X0_12 rfl dX0_adopt_1 ?_
  refine lv_aload_n hx hb dX0_adopt_4 rfl (lv_at hl 1 rfl) ?_
  obtain ⟨mu1, hc, hE⟩ := bd1_some hE
  refine xc_V0 (rest := []) (c_X4_copyFrom (by omega) (by omega) hc) mw_X4_copyFrom km_X0_31 hx hb hml hown hG hI xA_of (wG_atE (by omega) (eX_O (j := (3 * p0)) (by omega))) rfl rfl ⟨Nat.le_of_ble_eq_true rfl, Nat.le_of_ble_eq_true rfl⟩ rfl hl.1 rfl (Nat.le_of_ble_eq_true rfl) dX0_adopt_5 (fun H locs hI => ?_)
  refine lv_aload_n hx hb dX0_adopt_8 rfl (lv_at hl 0 rfl) ?_
  obtain ⟨r2, mu3, hc, hE⟩ := bd2_some hE
  refine xc_V1 (rest := []) (c_X0_fork (by omega) hc) mw_X0_fork km_X0_85 hx hb hml hown hG hI xA_of (wG_atE (by omega) (eX_D (d := p0) (by omega))) rfl rfl ⟨Nat.le_of_ble_eq_true rfl, Nat.le_of_ble_eq_true rfl⟩ rfl hl.1 rfl (Nat.le_of_ble_eq_true rfl) dX0_adopt_9 (fun H locs hI => ?_)
  obtain ⟨rfl, rfl⟩ := sm2 hE
  exact xr_i hx hb hr hlk hG hI dX0_adopt_12
