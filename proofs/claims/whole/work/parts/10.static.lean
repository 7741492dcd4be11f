def X8_isSide (p0 : Int32) : Option (Bool) :=
  (if p0 = 1 then some true else (if p0 = 2 then some true else some false))
set_option maxHeartbeats 4000000 in
set_option maxRecDepth 100000 in
theorem c_X8_isSide {l : Launch} {D : va_G} {cI cZ cD : ClassId} {w : va_W} {p0 : Int32} {r : Bool}  (hE : X8_isSide p0 = some (r)) : Ct l yX8_isSide cX8_isSide 1 (some .boolean) (rmOf 0 0) D (tyL cI cZ cD) [.int p0] w (some (.int (b2i r))) w := by
  refine Ct.ofW (by decide +kernel) (fun p e s m below meth c hC hI => ?_)
  obtain ⟨hx, hb, hml, hown, hr, hlk, hG⟩ := hC
  have hown : s.vm.findClass RX8 = some m.cls := hown
  have hl := lv_entry ([.int p0] : List Value) (n := 1) (Nat.le_of_ble_eq_true rfl)
  rw [lg_entry_eq]
  generalize (lg_sl ([.int p0] : List Value) ++ List.replicate (1 - (lg_sl ([.int p0] : List Value)).length) Slot.unset).toArray = ls at hl ⊢
  have hl : lv_has ls 1 [(0, .int p0)] := hl
  unfold X8_isSide at hE
  refine lv_iload_n hx hb dX8_isSide_0 rfl (lv_at hl 0 rfl) ?_
  refine lv_iconst (v := 1) hx hb dX8_isSide_1 (by decide) ?_
  refine lv_icmp_eq (tgt := 10) hx hb dX8_isSide_2 (by decide) (fun c2 => ?_) (fun c2 => ?_)
  · rw [if_pos c2] at hE
    refine lv_iconst (v := 1) hx hb dX8_isSide_10 (by decide) ?_
    refine lv_goto (tgt := 15) hx hb dX8_isSide_11 (by decide) ?_
    obtain rfl := sm1 hE
    exact xr_z rfl hx hb hr hlk hG hI dX8_isSide_15
  · rw [if_neg c2] at hE
    refine lv_iload_n hx hb dX8_isSide_5 rfl (lv_at hl 0 rfl) ?_
    refine lv_iconst (v := 2) hx hb dX8_isSide_6 (by decide) ?_
    refine lv_icmp_ne (tgt := 14) hx hb dX8_isSide_7 (by decide) (fun c7 => ?_) (fun c7 => ?_)
    · rw [if_neg c7] at hE
      refine lv_iconst (v := 0) hx hb dX8_isSide_14 (by decide) ?_
      obtain rfl := sm1 hE
      exact xr_z rfl hx hb hr hlk hG hI dX8_isSide_15
    · rw [if_pos c7] at hE
      refine lv_iconst (v := 1) hx hb dX8_isSide_10 (by decide) ?_
      refine lv_goto (tgt := 15) hx hb dX8_isSide_11 (by decide) ?_
      obtain rfl := sm1 hE
      exact xr_z rfl hx hb hr hlk hG hI dX8_isSide_15
def X8_isOwnOutline (p0 : Int32) : Option (Bool) :=
  (if p0 = 0 then some true else (X8_isSide p0 : Option Bool).bind fun (r1 : Bool) => (if (b2i r1) = 0 then some false else some true))
set_option maxHeartbeats 4000000 in
set_option maxRecDepth 100000 in
theorem c_X8_isOwnOutline {l : Launch} {D : va_G} {cI cZ cD : ClassId} {w : va_W} {p0 : Int32} {r : Bool}  (hE : X8_isOwnOutline p0 = some (r)) : Ct l yX8_isOwnOutline cX8_isOwnOutline 1 (some .boolean) (rmOf 1 20) D (tyL cI cZ cD) [.int p0] w (some (.int (b2i r))) w := by
  refine Ct.ofW (by decide +kernel) (fun p e s m below meth c hC hI => ?_)
  obtain ⟨hx, hb, hml, hown, hr, hlk, hG⟩ := hC
  have hown : s.vm.findClass RX8 = some m.cls := hown
  have hl := lv_entry ([.int p0] : List Value) (n := 1) (Nat.le_of_ble_eq_true rfl)
  rw [lg_entry_eq]
  generalize (lg_sl ([.int p0] : List Value) ++ List.replicate (1 - (lg_sl ([.int p0] : List Value)).length) Slot.unset).toArray = ls at hl ⊢
  have hl : lv_has ls 1 [(0, .int p0)] := hl
  unfold X8_isOwnOutline at hE
  refine lv_iload_n hx hb dX8_isOwnOutline_0 rfl (lv_at hl 0 rfl) ?_
  refine lv_if_eq (tgt := 11) hx hb dX8_isOwnOutline_1 (by decide) (fun c1 => ?_) (fun c1 => ?_)
  · rw [if_pos c1] at hE
    refine lv_iconst (v := 1) hx hb dX8_isOwnOutline_11 (by decide) ?_
    refine lv_goto (tgt := 16) hx hb dX8_isOwnOutline_12 (by decide) ?_
    obtain rfl := sm1 hE
    exact xr_z rfl hx hb hr hlk hG hI dX8_isOwnOutline_16
  · rw [if_neg c1] at hE
    refine lv_iload_n hx hb dX8_isOwnOutline_4 rfl (lv_at hl 0 rfl) ?_
    obtain ⟨r1, hc, hE⟩ := bd1_some hE
    refine xc_S1 (rest := []) (c_X8_isSide hc) mw_X8_isSide km_X8_154 hx hb hml hown hG hI xA_of ⟨Nat.le_of_ble_eq_true rfl, Nat.le_of_ble_eq_true rfl⟩ rfl hl.1 rfl (Nat.le_of_ble_eq_true rfl) dX8_isOwnOutline_5 (fun H locs hI => ?_)
    refine lv_if_eq (tgt := 15) hx hb dX8_isOwnOutline_8 (by decide) (fun c8 => ?_) (fun c8 => ?_)
    · rw [if_pos c8] at hE
      refine lv_iconst (v := 0) hx hb dX8_isOwnOutline_15 (by decide) ?_
      obtain rfl := sm1 hE
      exact xr_z rfl hx hb hr hlk hG hI dX8_isOwnOutline_16
    · rw [if_neg c8] at hE
      refine lv_iconst (v := 1) hx hb dX8_isOwnOutline_11 (by decide) ?_
      refine lv_goto (tgt := 16) hx hb dX8_isOwnOutline_12 (by decide) ?_
      obtain rfl := sm1 hE
      exact xr_z rfl hx hb hr hlk hG hI dX8_isOwnOutline_16
def X8_isValue (p0 : Int32) : Option (Bool) :=
  (if p0 < 0 then some false else (if 100 ≤ p0 then some false else some true))
set_option maxHeartbeats 4000000 in
set_option maxRecDepth 100000 in
theorem c_X8_isValue {l : Launch} {D : va_G} {cI cZ cD : ClassId} {w : va_W} {p0 : Int32} {r : Bool}  (hE : X8_isValue p0 = some (r)) : Ct l yX8_isValue cX8_isValue 1 (some .boolean) (rmOf 0 0) D (tyL cI cZ cD) [.int p0] w (some (.int (b2i r))) w := by
  refine Ct.ofW (by decide +kernel) (fun p e s m below meth c hC hI => ?_)
  obtain ⟨hx, hb, hml, hown, hr, hlk, hG⟩ := hC
  have hown : s.vm.findClass RX8 = some m.cls := hown
  have hl := lv_entry ([.int p0] : List Value) (n := 1) (Nat.le_of_ble_eq_true rfl)
  rw [lg_entry_eq]
  generalize (lg_sl ([.int p0] : List Value) ++ List.replicate (1 - (lg_sl ([.int p0] : List Value)).length) Slot.unset).toArray = ls at hl ⊢
  have hl : lv_has ls 1 [(0, .int p0)] := hl
  unfold X8_isValue at hE
  refine lv_iload_n hx hb dX8_isValue_0 rfl (lv_at hl 0 rfl) ?_
  refine lv_if_lt (tgt := 14) hx hb dX8_isValue_1 (by decide) (fun c1 => ?_) (fun c1 => ?_)
  · rw [if_pos c1] at hE
    refine lv_iconst (v := 0) hx hb dX8_isValue_14 (by decide) ?_
    obtain rfl := sm1 hE
    exact xr_z rfl hx hb hr hlk hG hI dX8_isValue_15
  · rw [if_neg c1] at hE
    refine lv_iload_n hx hb dX8_isValue_4 rfl (lv_at hl 0 rfl) ?_
    refine lv_bipush (v := 100) hx hb dX8_isValue_5 (by decide) ?_
    refine lv_icmp_ge (tgt := 14) hx hb dX8_isValue_7 (by decide) (fun c7 => ?_) (fun c7 => ?_)
    · rw [if_pos c7] at hE
      refine lv_iconst (v := 0) hx hb dX8_isValue_14 (by decide) ?_
      obtain rfl := sm1 hE
      exact xr_z rfl hx hb hr hlk hG hI dX8_isValue_15
    · rw [if_neg c7] at hE
      refine lv_iconst (v := 1) hx hb dX8_isValue_10 (by decide) ?_
      refine lv_goto (tgt := 15) hx hb dX8_isValue_11 (by decide) ?_
      obtain rfl := sm1 hE
      exact xr_z rfl hx hb hr hlk hG hI dX8_isValue_15
def J6_bitCount_0f7a4 (p0 : Int32) : Option (Int32) :=
  some ((((((((p0 - (((p0.toUInt32 >>> ((1 : Int32).toUInt32 &&& Int32.toUInt32 31)).toInt32) &&& 1431655765)) &&& 858993459) + ((((p0 - (((p0.toUInt32 >>> ((1 : Int32).toUInt32 &&& Int32.toUInt32 31)).toInt32) &&& 1431655765)).toUInt32 >>> ((2 : Int32).toUInt32 &&& Int32.toUInt32 31)).toInt32) &&& 858993459)) + (((((p0 - (((p0.toUInt32 >>> ((1 : Int32).toUInt32 &&& Int32.toUInt32 31)).toInt32) &&& 1431655765)) &&& 858993459) + ((((p0 - (((p0.toUInt32 >>> ((1 : Int32).toUInt32 &&& Int32.toUInt32 31)).toInt32) &&& 1431655765)).toUInt32 >>> ((2 : Int32).toUInt32 &&& Int32.toUInt32 31)).toInt32) &&& 858993459)).toUInt32 >>> ((4 : Int32).toUInt32 &&& Int32.toUInt32 31)).toInt32)) &&& 252645135) + (((((((p0 - (((p0.toUInt32 >>> ((1 : Int32).toUInt32 &&& Int32.toUInt32 31)).toInt32) &&& 1431655765)) &&& 858993459) + ((((p0 - (((p0.toUInt32 >>> ((1 : Int32).toUInt32 &&& Int32.toUInt32 31)).toInt32) &&& 1431655765)).toUInt32 >>> ((2 : Int32).toUInt32 &&& Int32.toUInt32 31)).toInt32) &&& 858993459)) + (((((p0 - (((p0.toUInt32 >>> ((1 : Int32).toUInt32 &&& Int32.toUInt32 31)).toInt32) &&& 1431655765)) &&& 858993459) + ((((p0 - (((p0.toUInt32 >>> ((1 : Int32).toUInt32 &&& Int32.toUInt32 31)).toInt32) &&& 1431655765)).toUInt32 >>> ((2 : Int32).toUInt32 &&& Int32.toUInt32 31)).toInt32) &&& 858993459)).toUInt32 >>> ((4 : Int32).toUInt32 &&& Int32.toUInt32 31)).toInt32)) &&& 252645135).toUInt32 >>> ((8 : Int32).toUInt32 &&& Int32.toUInt32 31)).toInt32)) + ((((((((p0 - (((p0.toUInt32 >>> ((1 : Int32).toUInt32 &&& Int32.toUInt32 31)).toInt32) &&& 1431655765)) &&& 858993459) + ((((p0 - (((p0.toUInt32 >>> ((1 : Int32).toUInt32 &&& Int32.toUInt32 31)).toInt32) &&& 1431655765)).toUInt32 >>> ((2 : Int32).toUInt32 &&& Int32.toUInt32 31)).toInt32) &&& 858993459)) + (((((p0 - (((p0.toUInt32 >>> ((1 : Int32).toUInt32 &&& Int32.toUInt32 31)).toInt32) &&& 1431655765)) &&& 858993459) + ((((p0 - (((p0.toUInt32 >>> ((1 : Int32).toUInt32 &&& Int32.toUInt32 31)).toInt32) &&& 1431655765)).toUInt32 >>> ((2 : Int32).toUInt32 &&& Int32.toUInt32 31)).toInt32) &&& 858993459)).toUInt32 >>> ((4 : Int32).toUInt32 &&& Int32.toUInt32 31)).toInt32)) &&& 252645135) + (((((((p0 - (((p0.toUInt32 >>> ((1 : Int32).toUInt32 &&& Int32.toUInt32 31)).toInt32) &&& 1431655765)) &&& 858993459) + ((((p0 - (((p0.toUInt32 >>> ((1 : Int32).toUInt32 &&& Int32.toUInt32 31)).toInt32) &&& 1431655765)).toUInt32 >>> ((2 : Int32).toUInt32 &&& Int32.toUInt32 31)).toInt32) &&& 858993459)) + (((((p0 - (((p0.toUInt32 >>> ((1 : Int32).toUInt32 &&& Int32.toUInt32 31)).toInt32) &&& 1431655765)) &&& 858993459) + ((((p0 - (((p0.toUInt32 >>> ((1 : Int32).toUInt32 &&& Int32.toUInt32 31)).toInt32) &&& 1431655765)).toUInt32 >>> ((2 : Int32).toUInt32 &&& Int32.toUInt32 31)).toInt32) &&& 858993459)).toUInt32 >>> ((4 : Int32).toUInt32 &&& Int32.toUInt32 31)).toInt32)) &&& 252645135).toUInt32 >>> ((8 : Int32).toUInt32 &&& Int32.toUInt32 31)).toInt32)).toUInt32 >>> ((16 : Int32).toUInt32 &&& Int32.toUInt32 31)).toInt32)) &&& 63)
set_option maxHeartbeats 4000000 in
set_option maxRecDepth 100000 in
theorem c_J6_bitCount_0f7a4 {l : Launch} {D : va_G} {cI cZ cD : ClassId} {w : va_W} {p0 : Int32} {r : Int32}  (hE : J6_bitCount_0f7a4 p0 = some (r)) : Ct l yJ6_bitCount_0f7a4 cJ6_bitCount_0f7a4 1 (some .int) (rmOf 0 0) D (tyL cI cZ cD) [.int p0] w (some (.int r)) w := by
  refine Ct.ofW (by decide +kernel) (fun p e s m below meth c hC hI => ?_)
  obtain ⟨hx, hb, hml, hown, hr, hlk, hG⟩ := hC
  have hown : s.vm.findClass RJ6 = some m.cls := hown
  have hl := lv_entry ([.int p0] : List Value) (n := 1) (Nat.le_of_ble_eq_true rfl)
  rw [lg_entry_eq]
  generalize (lg_sl ([.int p0] : List Value) ++ List.replicate (1 - (lg_sl ([.int p0] : List Value)).length) Slot.unset).toArray = ls at hl ⊢
  have hl : lv_has ls 1 [(0, .int p0)] := hl
  unfold J6_bitCount_0f7a4 at hE
  refine lv_iload_n hx hb dJ6_bitCount_0f7a4_0 rfl (lv_at hl 0 rfl) ?_
  refine lv_iload_n hx hb dJ6_bitCount_0f7a4_1 rfl (lv_at hl 0 rfl) ?_
  refine lv_iconst (v := 1) hx hb dJ6_bitCount_0f7a4_2 (by decide) ?_
  refine lv_iushr (v := (p0.toUInt32 >>> ((1 : Int32).toUInt32 &&& Int32.toUInt32 31)).toInt32) hx hb dJ6_bitCount_0f7a4_3 rfl ?_
  refine lv_ldcw (v := 1431655765) hx hb hown (hG.2 _ kc_J6_265 _) dJ6_bitCount_0f7a4_4 ?_
  refine lv_iand hx hb dJ6_bitCount_0f7a4_7 ?_
  refine lv_isub hx hb dJ6_bitCount_0f7a4_8 ?_
  refine lv_istore_n (lv' := [(0, .int (p0 - (((p0.toUInt32 >>> ((1 : Int32).toUInt32 &&& Int32.toUInt32 31)).toInt32) &&& 1431655765)))]) hx hb dJ6_bitCount_0f7a4_9 rfl hl (by decide) rfl (fun ls hl => ?_)
  refine lv_iload_n hx hb dJ6_bitCount_0f7a4_10 rfl (lv_at hl 0 rfl) ?_
  refine lv_ldcw (v := 858993459) hx hb hown (hG.2 _ kc_J6_266 _) dJ6_bitCount_0f7a4_11 ?_
  refine lv_iand hx hb dJ6_bitCount_0f7a4_14 ?_
  refine lv_iload_n hx hb dJ6_bitCount_0f7a4_15 rfl (lv_at hl 0 rfl) ?_
  refine lv_iconst (v := 2) hx hb dJ6_bitCount_0f7a4_16 (by decide) ?_
  refine lv_iushr (v := ((p0 - (((p0.toUInt32 >>> ((1 : Int32).toUInt32 &&& Int32.toUInt32 31)).toInt32) &&& 1431655765)).toUInt32 >>> ((2 : Int32).toUInt32 &&& Int32.toUInt32 31)).toInt32) hx hb dJ6_bitCount_0f7a4_17 rfl ?_
  refine lv_ldcw (v := 858993459) hx hb hown (hG.2 _ kc_J6_266 _) dJ6_bitCount_0f7a4_18 ?_
  refine lv_iand hx hb dJ6_bitCount_0f7a4_21 ?_
  refine lv_iadd hx hb dJ6_bitCount_0f7a4_22 ?_
  refine lv_istore_n (lv' := [(0, .int (((p0 - (((p0.toUInt32 >>> ((1 : Int32).toUInt32 &&& Int32.toUInt32 31)).toInt32) &&& 1431655765)) &&& 858993459) + ((((p0 - (((p0.toUInt32 >>> ((1 : Int32).toUInt32 &&& Int32.toUInt32 31)).toInt32) &&& 1431655765)).toUInt32 >>> ((2 : Int32).toUInt32 &&& Int32.toUInt32 31)).toInt32) &&& 858993459)))]) hx hb dJ6_bitCount_0f7a4_23 rfl hl (by decide) rfl (fun ls hl => ?_)
  refine lv_iload_n hx hb dJ6_bitCount_0f7a4_24 rfl (lv_at hl 0 rfl) ?_
  refine lv_iload_n hx hb dJ6_bitCount_0f7a4_25 rfl (lv_at hl 0 rfl) ?_
  refine lv_iconst (v := 4) hx hb dJ6_bitCount_0f7a4_26 (by decide) ?_
  refine lv_iushr (v := ((((p0 - (((p0.toUInt32 >>> ((1 : Int32).toUInt32 &&& Int32.toUInt32 31)).toInt32) &&& 1431655765)) &&& 858993459) + ((((p0 - (((p0.toUInt32 >>> ((1 : Int32).toUInt32 &&& Int32.toUInt32 31)).toInt32) &&& 1431655765)).toUInt32 >>> ((2 : Int32).toUInt32 &&& Int32.toUInt32 31)).toInt32) &&& 858993459)).toUInt32 >>> ((4 : Int32).toUInt32 &&& Int32.toUInt32 31)).toInt32) hx hb dJ6_bitCount_0f7a4_27 rfl ?_
  refine lv_iadd hx hb dJ6_bitCount_0f7a4_28 ?_
  refine lv_ldcw (v := 252645135) hx hb hown (hG.2 _ kc_J6_267 _) dJ6_bitCount_0f7a4_29 ?_
  refine lv_iand hx hb dJ6_bitCount_0f7a4_32 ?_
  refine lv_istore_n (lv' := [(0, .int (((((p0 - (((p0.toUInt32 >>> ((1 : Int32).toUInt32 &&& Int32.toUInt32 31)).toInt32) &&& 1431655765)) &&& 858993459) + ((((p0 - (((p0.toUInt32 >>> ((1 : Int32).toUInt32 &&& Int32.toUInt32 31)).toInt32) &&& 1431655765)).toUInt32 >>> ((2 : Int32).toUInt32 &&& Int32.toUInt32 31)).toInt32) &&& 858993459)) + (((((p0 - (((p0.toUInt32 >>> ((1 : Int32).toUInt32 &&& Int32.toUInt32 31)).toInt32) &&& 1431655765)) &&& 858993459) + ((((p0 - (((p0.toUInt32 >>> ((1 : Int32).toUInt32 &&& Int32.toUInt32 31)).toInt32) &&& 1431655765)).toUInt32 >>> ((2 : Int32).toUInt32 &&& Int32.toUInt32 31)).toInt32) &&& 858993459)).toUInt32 >>> ((4 : Int32).toUInt32 &&& Int32.toUInt32 31)).toInt32)) &&& 252645135))]) hx hb dJ6_bitCount_0f7a4_33 rfl hl (by decide) rfl (fun ls hl => ?_)
  refine lv_iload_n hx hb dJ6_bitCount_0f7a4_34 rfl (lv_at hl 0 rfl) ?_
  refine lv_iload_n hx hb dJ6_bitCount_0f7a4_35 rfl (lv_at hl 0 rfl) ?_
  refine lv_bipush (v := 8) hx hb dJ6_bitCount_0f7a4_36 (by decide) ?_
  refine lv_iushr (v := ((((((p0 - (((p0.toUInt32 >>> ((1 : Int32).toUInt32 &&& Int32.toUInt32 31)).toInt32) &&& 1431655765)) &&& 858993459) + ((((p0 - (((p0.toUInt32 >>> ((1 : Int32).toUInt32 &&& Int32.toUInt32 31)).toInt32) &&& 1431655765)).toUInt32 >>> ((2 : Int32).toUInt32 &&& Int32.toUInt32 31)).toInt32) &&& 858993459)) + (((((p0 - (((p0.toUInt32 >>> ((1 : Int32).toUInt32 &&& Int32.toUInt32 31)).toInt32) &&& 1431655765)) &&& 858993459) + ((((p0 - (((p0.toUInt32 >>> ((1 : Int32).toUInt32 &&& Int32.toUInt32 31)).toInt32) &&& 1431655765)).toUInt32 >>> ((2 : Int32).toUInt32 &&& Int32.toUInt32 31)).toInt32) &&& 858993459)).toUInt32 >>> ((4 : Int32).toUInt32 &&& Int32.toUInt32 31)).toInt32)) &&& 252645135).toUInt32 >>> ((8 : Int32).toUInt32 &&& Int32.toUInt32 31)).toInt32) hx hb dJ6_bitCount_0f7a4_38 rfl ?_
  refine lv_iadd hx hb dJ6_bitCount_0f7a4_39 ?_
  refine lv_istore_n (lv' := [(0, .int ((((((p0 - (((p0.toUInt32 >>> ((1 : Int32).toUInt32 &&& Int32.toUInt32 31)).toInt32) &&& 1431655765)) &&& 858993459) + ((((p0 - (((p0.toUInt32 >>> ((1 : Int32).toUInt32 &&& Int32.toUInt32 31)).toInt32) &&& 1431655765)).toUInt32 >>> ((2 : Int32).toUInt32 &&& Int32.toUInt32 31)).toInt32) &&& 858993459)) + (((((p0 - (((p0.toUInt32 >>> ((1 : Int32).toUInt32 &&& Int32.toUInt32 31)).toInt32) &&& 1431655765)) &&& 858993459) + ((((p0 - (((p0.toUInt32 >>> ((1 : Int32).toUInt32 &&& Int32.toUInt32 31)).toInt32) &&& 1431655765)).toUInt32 >>> ((2 : Int32).toUInt32 &&& Int32.toUInt32 31)).toInt32) &&& 858993459)).toUInt32 >>> ((4 : Int32).toUInt32 &&& Int32.toUInt32 31)).toInt32)) &&& 252645135) + (((((((p0 - (((p0.toUInt32 >>> ((1 : Int32).toUInt32 &&& Int32.toUInt32 31)).toInt32) &&& 1431655765)) &&& 858993459) + ((((p0 - (((p0.toUInt32 >>> ((1 : Int32).toUInt32 &&& Int32.toUInt32 31)).toInt32) &&& 1431655765)).toUInt32 >>> ((2 : Int32).toUInt32 &&& Int32.toUInt32 31)).toInt32) &&& 858993459)) + (((((p0 - (((p0.toUInt32 >>> ((1 : Int32).toUInt32 &&& Int32.toUInt32 31)).toInt32) &&& 1431655765)) &&& 858993459) + ((((p0 - (((p0.toUInt32 >>> ((1 : Int32).toUInt32 &&& Int32.toUInt32 31)).toInt32) &&& 1431655765)).toUInt32 >>> ((2 : Int32).toUInt32 &&& Int32.toUInt32 31)).toInt32) &&& 858993459)).toUInt32 >>> ((4 : Int32).toUInt32 &&& Int32.toUInt32 31)).toInt32)) &&& 252645135).toUInt32 >>> ((8 : Int32).toUInt32 &&& Int32.toUInt32 31)).toInt32)))]) hx hb dJ6_bitCount_0f7a4_40 rfl hl (by decide) rfl (fun ls hl => ?_)
  refine lv_iload_n hx hb dJ6_bitCount_0f7a4_41 rfl (lv_at hl 0 rfl) ?_
  refine lv_iload_n hx hb dJ6_bitCount_0f7a4_42 rfl (lv_at hl 0 rfl) ?_
  refine lv_bipush (v := 16) hx hb dJ6_bitCount_0f7a4_43 (by decide) ?_
  refine lv_iushr (v := (((((((p0 - (((p0.toUInt32 >>> ((1 : Int32).toUInt32 &&& Int32.toUInt32 31)).toInt32) &&& 1431655765)) &&& 858993459) + ((((p0 - (((p0.toUInt32 >>> ((1 : Int32).toUInt32 &&& Int32.toUInt32 31)).toInt32) &&& 1431655765)).toUInt32 >>> ((2 : Int32).toUInt32 &&& Int32.toUInt32 31)).toInt32) &&& 858993459)) + (((((p0 - (((p0.toUInt32 >>> ((1 : Int32).toUInt32 &&& Int32.toUInt32 31)).toInt32) &&& 1431655765)) &&& 858993459) + ((((p0 - (((p0.toUInt32 >>> ((1 : Int32).toUInt32 &&& Int32.toUInt32 31)).toInt32) &&& 1431655765)).toUInt32 >>> ((2 : Int32).toUInt32 &&& Int32.toUInt32 31)).toInt32) &&& 858993459)).toUInt32 >>> ((4 : Int32).toUInt32 &&& Int32.toUInt32 31)).toInt32)) &&& 252645135) + (((((((p0 - (((p0.toUInt32 >>> ((1 : Int32).toUInt32 &&& Int32.toUInt32 31)).toInt32) &&& 1431655765)) &&& 858993459) + ((((p0 - (((p0.toUInt32 >>> ((1 : Int32).toUInt32 &&& Int32.toUInt32 31)).toInt32) &&& 1431655765)).toUInt32 >>> ((2 : Int32).toUInt32 &&& Int32.toUInt32 31)).toInt32) &&& 858993459)) + (((((p0 - (((p0.toUInt32 >>> ((1 : Int32).toUInt32 &&& Int32.toUInt32 31)).toInt32) &&& 1431655765)) &&& 858993459) + ((((p0 - (((p0.toUInt32 >>> ((1 : Int32).toUInt32 &&& Int32.toUInt32 31)).toInt32) &&& 1431655765)).toUInt32 >>> ((2 : Int32).toUInt32 &&& Int32.toUInt32 31)).toInt32) &&& 858993459)).toUInt32 >>> ((4 : Int32).toUInt32 &&& Int32.toUInt32 31)).toInt32)) &&& 252645135).toUInt32 >>> ((8 : Int32).toUInt32 &&& Int32.toUInt32 31)).toInt32)).toUInt32 >>> ((16 : Int32).toUInt32 &&& Int32.toUInt32 31)).toInt32) hx hb dJ6_bitCount_0f7a4_45 rfl ?_
  refine lv_iadd hx hb dJ6_bitCount_0f7a4_46 ?_
  refine lv_istore_n (lv' := [(0, .int (((((((p0 - (((p0.toUInt32 >>> ((1 : Int32).toUInt32 &&& Int32.toUInt32 31)).toInt32) &&& 1431655765)) &&& 858993459) + ((((p0 - (((p0.toUInt32 >>> ((1 : Int32).toUInt32 &&& Int32.toUInt32 31)).toInt32) &&& 1431655765)).toUInt32 >>> ((2 : Int32).toUInt32 &&& Int32.toUInt32 31)).toInt32) &&& 858993459)) + (((((p0 - (((p0.toUInt32 >>> ((1 : Int32).toUInt32 &&& Int32.toUInt32 31)).toInt32) &&& 1431655765)) &&& 858993459) + ((((p0 - (((p0.toUInt32 >>> ((1 : Int32).toUInt32 &&& Int32.toUInt32 31)).toInt32) &&& 1431655765)).toUInt32 >>> ((2 : Int32).toUInt32 &&& Int32.toUInt32 31)).toInt32) &&& 858993459)).toUInt32 >>> ((4 : Int32).toUInt32 &&& Int32.toUInt32 31)).toInt32)) &&& 252645135) + (((((((p0 - (((p0.toUInt32 >>> ((1 : Int32).toUInt32 &&& Int32.toUInt32 31)).toInt32) &&& 1431655765)) &&& 858993459) + ((((p0 - (((p0.toUInt32 >>> ((1 : Int32).toUInt32 &&& Int32.toUInt32 31)).toInt32) &&& 1431655765)).toUInt32 >>> ((2 : Int32).toUInt32 &&& Int32.toUInt32 31)).toInt32) &&& 858993459)) + (((((p0 - (((p0.toUInt32 >>> ((1 : Int32).toUInt32 &&& Int32.toUInt32 31)).toInt32) &&& 1431655765)) &&& 858993459) + ((((p0 - (((p0.toUInt32 >>> ((1 : Int32).toUInt32 &&& Int32.toUInt32 31)).toInt32) &&& 1431655765)).toUInt32 >>> ((2 : Int32).toUInt32 &&& Int32.toUInt32 31)).toInt32) &&& 858993459)).toUInt32 >>> ((4 : Int32).toUInt32 &&& Int32.toUInt32 31)).toInt32)) &&& 252645135).toUInt32 >>> ((8 : Int32).toUInt32 &&& Int32.toUInt32 31)).toInt32)) + ((((((((p0 - (((p0.toUInt32 >>> ((1 : Int32).toUInt32 &&& Int32.toUInt32 31)).toInt32) &&& 1431655765)) &&& 858993459) + ((((p0 - (((p0.toUInt32 >>> ((1 : Int32).toUInt32 &&& Int32.toUInt32 31)).toInt32) &&& 1431655765)).toUInt32 >>> ((2 : Int32).toUInt32 &&& Int32.toUInt32 31)).toInt32) &&& 858993459)) + (((((p0 - (((p0.toUInt32 >>> ((1 : Int32).toUInt32 &&& Int32.toUInt32 31)).toInt32) &&& 1431655765)) &&& 858993459) + ((((p0 - (((p0.toUInt32 >>> ((1 : Int32).toUInt32 &&& Int32.toUInt32 31)).toInt32) &&& 1431655765)).toUInt32 >>> ((2 : Int32).toUInt32 &&& Int32.toUInt32 31)).toInt32) &&& 858993459)).toUInt32 >>> ((4 : Int32).toUInt32 &&& Int32.toUInt32 31)).toInt32)) &&& 252645135) + (((((((p0 - (((p0.toUInt32 >>> ((1 : Int32).toUInt32 &&& Int32.toUInt32 31)).toInt32) &&& 1431655765)) &&& 858993459) + ((((p0 - (((p0.toUInt32 >>> ((1 : Int32).toUInt32 &&& Int32.toUInt32 31)).toInt32) &&& 1431655765)).toUInt32 >>> ((2 : Int32).toUInt32 &&& Int32.toUInt32 31)).toInt32) &&& 858993459)) + (((((p0 - (((p0.toUInt32 >>> ((1 : Int32).toUInt32 &&& Int32.toUInt32 31)).toInt32) &&& 1431655765)) &&& 858993459) + ((((p0 - (((p0.toUInt32 >>> ((1 : Int32).toUInt32 &&& Int32.toUInt32 31)).toInt32) &&& 1431655765)).toUInt32 >>> ((2 : Int32).toUInt32 &&& Int32.toUInt32 31)).toInt32) &&& 858993459)).toUInt32 >>> ((4 : Int32).toUInt32 &&& Int32.toUInt32 31)).toInt32)) &&& 252645135).toUInt32 >>> ((8 : Int32).toUInt32 &&& Int32.toUInt32 31)).toInt32)).toUInt32 >>> ((16 : Int32).toUInt32 &&& Int32.toUInt32 31)).toInt32)))]) hx hb dJ6_bitCount_0f7a4_47 rfl hl (by decide) rfl (fun ls hl => ?_)
  refine lv_iload_n hx hb dJ6_bitCount_0f7a4_48 rfl (lv_at hl 0 rfl) ?_
  refine lv_bipush (v := 63) hx hb dJ6_bitCount_0f7a4_49 (by decide) ?_
  refine lv_iand hx hb dJ6_bitCount_0f7a4_51 ?_
  obtain rfl := sm1 hE
  exact xr_i hx hb hr hlk hG hI dJ6_bitCount_0f7a4_52
def X8_isNumber (p0 : Int32) : Option (Bool) :=
  (if p0 < 0 then some false else (if 16 ≤ p0 then some false else some true))
set_option maxHeartbeats 4000000 in
set_option maxRecDepth 100000 in
theorem c_X8_isNumber {l : Launch} {D : va_G} {cI cZ cD : ClassId} {w : va_W} {p0 : Int32} {r : Bool}  (hE : X8_isNumber p0 = some (r)) : Ct l yX8_isNumber cX8_isNumber 1 (some .boolean) (rmOf 0 0) D (tyL cI cZ cD) [.int p0] w (some (.int (b2i r))) w := by
  refine Ct.ofW (by decide +kernel) (fun p e s m below meth c hC hI => ?_)
  obtain ⟨hx, hb, hml, hown, hr, hlk, hG⟩ := hC
  have hown : s.vm.findClass RX8 = some m.cls := hown
  have hl := lv_entry ([.int p0] : List Value) (n := 1) (Nat.le_of_ble_eq_true rfl)
  rw [lg_entry_eq]
  generalize (lg_sl ([.int p0] : List Value) ++ List.replicate (1 - (lg_sl ([.int p0] : List Value)).length) Slot.unset).toArray = ls at hl ⊢
  have hl : lv_has ls 1 [(0, .int p0)] := hl
  unfold X8_isNumber at hE
  refine lv_iload_n hx hb dX8_isNumber_0 rfl (lv_at hl 0 rfl) ?_
  refine lv_if_lt (tgt := 14) hx hb dX8_isNumber_1 (by decide) (fun c1 => ?_) (fun c1 => ?_)
  · rw [if_pos c1] at hE
    refine lv_iconst (v := 0) hx hb dX8_isNumber_14 (by decide) ?_
    obtain rfl := sm1 hE
    exact xr_z rfl hx hb hr hlk hG hI dX8_isNumber_15
  · rw [if_neg c1] at hE
    refine lv_iload_n hx hb dX8_isNumber_4 rfl (lv_at hl 0 rfl) ?_
    refine lv_bipush (v := 16) hx hb dX8_isNumber_5 (by decide) ?_
    refine lv_icmp_ge (tgt := 14) hx hb dX8_isNumber_7 (by decide) (fun c7 => ?_) (fun c7 => ?_)
    · rw [if_pos c7] at hE
      refine lv_iconst (v := 0) hx hb dX8_isNumber_14 (by decide) ?_
      obtain rfl := sm1 hE
      exact xr_z rfl hx hb hr hlk hG hI dX8_isNumber_15
    · rw [if_neg c7] at hE
      refine lv_iconst (v := 1) hx hb dX8_isNumber_10 (by decide) ?_
      refine lv_goto (tgt := 15) hx hb dX8_isNumber_11 (by decide) ?_
      obtain rfl := sm1 hE
      exact xr_z rfl hx hb hr hlk hG hI dX8_isNumber_15
def X8_isAnyOutline (p0 : Int32) : Option (Bool) :=
  (X8_isOwnOutline p0 : Option Bool).bind fun (r1 : Bool) => (if (b2i r1) = 0 then (if p0 = 3 then some true else some false) else some true)
set_option maxHeartbeats 4000000 in
set_option maxRecDepth 100000 in
theorem c_X8_isAnyOutline {l : Launch} {D : va_G} {cI cZ cD : ClassId} {w : va_W} {p0 : Int32} {r : Bool}  (hE : X8_isAnyOutline p0 = some (r)) : Ct l yX8_isAnyOutline cX8_isAnyOutline 1 (some .boolean) (rmOf 2 40) D (tyL cI cZ cD) [.int p0] w (some (.int (b2i r))) w := by
  refine Ct.ofW (by decide +kernel) (fun p e s m below meth c hC hI => ?_)
  obtain ⟨hx, hb, hml, hown, hr, hlk, hG⟩ := hC
  have hown : s.vm.findClass RX8 = some m.cls := hown
  have hl := lv_entry ([.int p0] : List Value) (n := 1) (Nat.le_of_ble_eq_true rfl)
  rw [lg_entry_eq]
  generalize (lg_sl ([.int p0] : List Value) ++ List.replicate (1 - (lg_sl ([.int p0] : List Value)).length) Slot.unset).toArray = ls at hl ⊢
  have hl : lv_has ls 1 [(0, .int p0)] := hl
  unfold X8_isAnyOutline at hE
  refine lv_iload_n hx hb dX8_isAnyOutline_0 rfl (lv_at hl 0 rfl) ?_
  obtain ⟨r1, hc, hE⟩ := bd1_some hE
  refine xc_S1 (rest := []) (c_X8_isOwnOutline hc) mw_X8_isOwnOutline km_X8_240 hx hb hml hown hG hI xA_of ⟨Nat.le_of_ble_eq_true rfl, Nat.le_of_ble_eq_true rfl⟩ rfl hl.1 rfl (Nat.le_of_ble_eq_true rfl) dX8_isAnyOutline_1 (fun H locs hI => ?_)
  refine lv_if_ne (tgt := 12) hx hb dX8_isAnyOutline_4 (by decide) (fun c4 => ?_) (fun c4 => ?_)
  · rw [if_neg c4] at hE
    refine lv_iconst (v := 1) hx hb dX8_isAnyOutline_12 (by decide) ?_
    refine lv_goto (tgt := 17) hx hb dX8_isAnyOutline_13 (by decide) ?_
    obtain rfl := sm1 hE
    exact xr_z rfl hx hb hr hlk hG hI dX8_isAnyOutline_17
  · rw [if_pos c4] at hE
    refine lv_iload_n hx hb dX8_isAnyOutline_7 rfl (lv_at hl 0 rfl) ?_
    refine lv_iconst (v := 3) hx hb dX8_isAnyOutline_8 (by decide) ?_
    refine lv_icmp_ne (tgt := 16) hx hb dX8_isAnyOutline_9 (by decide) (fun c9 => ?_) (fun c9 => ?_)
    · rw [if_neg c9] at hE
      refine lv_iconst (v := 0) hx hb dX8_isAnyOutline_16 (by decide) ?_
      obtain rfl := sm1 hE
      exact xr_z rfl hx hb hr hlk hG hI dX8_isAnyOutline_17
    · rw [if_pos c9] at hE
      refine lv_iconst (v := 1) hx hb dX8_isAnyOutline_12 (by decide) ?_
      refine lv_goto (tgt := 17) hx hb dX8_isAnyOutline_13 (by decide) ?_
      obtain rfl := sm1 hE
      exact xr_z rfl hx hb hr hlk hG hI dX8_isAnyOutline_17
def X8_isRowAsked (p0 : Int32) (p1 : Int32) (p2 : Int32) : Option (Bool) :=
  (if p0 < (-1) then some false else (if p1 < 0 then some false else (if p2 ≤ p1 then some false else (if p0 = (-1) then (if p1 = 0 then some true else some false) else some true))))
set_option maxHeartbeats 4000000 in
set_option maxRecDepth 100000 in
theorem c_X8_isRowAsked {l : Launch} {D : va_G} {cI cZ cD : ClassId} {w : va_W} {p0 : Int32} {p1 : Int32} {p2 : Int32} {r : Bool}  (hE : X8_isRowAsked p0 p1 p2 = some (r)) : Ct l yX8_isRowAsked cX8_isRowAsked 3 (some .boolean) (rmOf 0 0) D (tyL cI cZ cD) [.int p0, .int p1, .int p2] w (some (.int (b2i r))) w := by
  refine Ct.ofW (by decide +kernel) (fun p e s m below meth c hC hI => ?_)
  obtain ⟨hx, hb, hml, hown, hr, hlk, hG⟩ := hC
  have hown : s.vm.findClass RX8 = some m.cls := hown
  have hl := lv_entry ([.int p0, .int p1, .int p2] : List Value) (n := 3) (Nat.le_of_ble_eq_true rfl)
  rw [lg_entry_eq]
  generalize (lg_sl ([.int p0, .int p1, .int p2] : List Value) ++ List.replicate (3 - (lg_sl ([.int p0, .int p1, .int p2] : List Value)).length) Slot.unset).toArray = ls at hl ⊢
  have hl : lv_has ls 3 [(0, .int p0), (1, .int p1), (2, .int p2)] := hl
  unfold X8_isRowAsked at hE
  refine lv_iload_n hx hb dX8_isRowAsked_0 rfl (lv_at hl 0 rfl) ?_
  refine lv_iconst (v := (-1)) hx hb dX8_isRowAsked_1 (by decide) ?_
  refine lv_icmp_lt (tgt := 27) hx hb dX8_isRowAsked_2 (by decide) (fun c2 => ?_) (fun c2 => ?_)
  · rw [if_pos c2] at hE
    refine lv_iconst (v := 0) hx hb dX8_isRowAsked_27 (by decide) ?_
    obtain rfl := sm1 hE
    exact xr_z rfl hx hb hr hlk hG hI dX8_isRowAsked_28
  · rw [if_neg c2] at hE
    refine lv_iload_n hx hb dX8_isRowAsked_5 rfl (lv_at hl 1 rfl) ?_
    refine lv_if_lt (tgt := 27) hx hb dX8_isRowAsked_6 (by decide) (fun c6 => ?_) (fun c6 => ?_)
    · rw [if_pos c6] at hE
      refine lv_iconst (v := 0) hx hb dX8_isRowAsked_27 (by decide) ?_
      obtain rfl := sm1 hE
      exact xr_z rfl hx hb hr hlk hG hI dX8_isRowAsked_28
    · rw [if_neg c6] at hE
      refine lv_iload_n hx hb dX8_isRowAsked_9 rfl (lv_at hl 1 rfl) ?_
      refine lv_iload_n hx hb dX8_isRowAsked_10 rfl (lv_at hl 2 rfl) ?_
      refine lv_icmp_ge (tgt := 27) hx hb dX8_isRowAsked_11 (by decide) (fun c11 => ?_) (fun c11 => ?_)
      · rw [if_pos c11] at hE
        refine lv_iconst (v := 0) hx hb dX8_isRowAsked_27 (by decide) ?_
        obtain rfl := sm1 hE
        exact xr_z rfl hx hb hr hlk hG hI dX8_isRowAsked_28
      · rw [if_neg c11] at hE
        refine lv_iload_n hx hb dX8_isRowAsked_14 rfl (lv_at hl 0 rfl) ?_
        refine lv_iconst (v := (-1)) hx hb dX8_isRowAsked_15 (by decide) ?_
        refine lv_icmp_ne (tgt := 23) hx hb dX8_isRowAsked_16 (by decide) (fun c16 => ?_) (fun c16 => ?_)
        · rw [if_neg c16] at hE
          refine lv_iconst (v := 1) hx hb dX8_isRowAsked_23 (by decide) ?_
          refine lv_goto (tgt := 28) hx hb dX8_isRowAsked_24 (by decide) ?_
          obtain rfl := sm1 hE
          exact xr_z rfl hx hb hr hlk hG hI dX8_isRowAsked_28
        · rw [if_pos c16] at hE
          refine lv_iload_n hx hb dX8_isRowAsked_19 rfl (lv_at hl 1 rfl) ?_
          refine lv_if_ne (tgt := 27) hx hb dX8_isRowAsked_20 (by decide) (fun c20 => ?_) (fun c20 => ?_)
          · rw [if_neg c20] at hE
            refine lv_iconst (v := 0) hx hb dX8_isRowAsked_27 (by decide) ?_
            obtain rfl := sm1 hE
            exact xr_z rfl hx hb hr hlk hG hI dX8_isRowAsked_28
          · rw [if_pos c20] at hE
            refine lv_iconst (v := 1) hx hb dX8_isRowAsked_23 (by decide) ?_
            refine lv_goto (tgt := 28) hx hb dX8_isRowAsked_24 (by decide) ?_
            obtain rfl := sm1 hE
            exact xr_z rfl hx hb hr hlk hG hI dX8_isRowAsked_28
def X7_numbersOf (p0 : Int32) : Option (Int32) :=
  (if p0 = 97 then some 5 else (if p0 = 100 then some 2 else (if p0 = 101 then some 3 else (if p0 = 102 then some 0 else (if p0 = 109 then some 4 else (if p0 = 112 then some 1 else (if p0 = 114 then some 3 else some (-1))))))))
set_option maxHeartbeats 4000000 in
set_option maxRecDepth 100000 in
theorem c_X7_numbersOf {l : Launch} {D : va_G} {cI cZ cD : ClassId} {w : va_W} {p0 : Int32} {r : Int32}  (hE : X7_numbersOf p0 = some (r)) : Ct l yX7_numbersOf cX7_numbersOf 1 (some .int) (rmOf 0 0) D (tyL cI cZ cD) [.int p0] w (some (.int r)) w := by
  refine Ct.ofW (by decide +kernel) (fun p e s m below meth c hC hI => ?_)
  obtain ⟨hx, hb, hml, hown, hr, hlk, hG⟩ := hC
  have hown : s.vm.findClass RX7 = some m.cls := hown
  have hl := lv_entry ([.int p0] : List Value) (n := 1) (Nat.le_of_ble_eq_true rfl)
  rw [lg_entry_eq]
  generalize (lg_sl ([.int p0] : List Value) ++ List.replicate (1 - (lg_sl ([.int p0] : List Value)).length) Slot.unset).toArray = ls at hl ⊢
  have hl : lv_has ls 1 [(0, .int p0)] := hl
  unfold X7_numbersOf at hE
  refine lv_iload_n hx hb dX7_numbersOf_0 rfl (lv_at hl 0 rfl) ?_
  by_cases k1_97 : p0 = 97
  · rw [if_pos k1_97] at hE
    refine lv_tableIn (tgt := 88) hx hb dX7_numbersOf_1 (by rw [k1_97]; decide) (by rw [k1_97]; decide) (by rw [k1_97]; rfl) (by decide) ?_
    refine lv_iconst (v := 5) hx hb dX7_numbersOf_88 (by decide) ?_
    obtain rfl := sm1 hE
    exact xr_i hx hb hr hlk hG hI dX7_numbersOf_89
  · rw [if_neg k1_97] at hE
    by_cases k1_100 : p0 = 100
    · rw [if_pos k1_100] at hE
      refine lv_tableIn (tgt := 94) hx hb dX7_numbersOf_1 (by rw [k1_100]; decide) (by rw [k1_100]; decide) (by rw [k1_100]; rfl) (by decide) ?_
      refine lv_iconst (v := 2) hx hb dX7_numbersOf_94 (by decide) ?_
      obtain rfl := sm1 hE
      exact xr_i hx hb hr hlk hG hI dX7_numbersOf_95
    · rw [if_neg k1_100] at hE
      by_cases k1_101 : p0 = 101
      · rw [if_pos k1_101] at hE
        refine lv_tableIn (tgt := 92) hx hb dX7_numbersOf_1 (by rw [k1_101]; decide) (by rw [k1_101]; decide) (by rw [k1_101]; rfl) (by decide) ?_
        refine lv_iconst (v := 3) hx hb dX7_numbersOf_92 (by decide) ?_
        obtain rfl := sm1 hE
        exact xr_i hx hb hr hlk hG hI dX7_numbersOf_93
      · rw [if_neg k1_101] at hE
        by_cases k1_102 : p0 = 102
        · rw [if_pos k1_102] at hE
          refine lv_tableIn (tgt := 98) hx hb dX7_numbersOf_1 (by rw [k1_102]; decide) (by rw [k1_102]; decide) (by rw [k1_102]; rfl) (by decide) ?_
          refine lv_iconst (v := 0) hx hb dX7_numbersOf_98 (by decide) ?_
          obtain rfl := sm1 hE
          exact xr_i hx hb hr hlk hG hI dX7_numbersOf_99
        · rw [if_neg k1_102] at hE
          by_cases k1_109 : p0 = 109
          · rw [if_pos k1_109] at hE
            refine lv_tableIn (tgt := 90) hx hb dX7_numbersOf_1 (by rw [k1_109]; decide) (by rw [k1_109]; decide) (by rw [k1_109]; rfl) (by decide) ?_
            refine lv_iconst (v := 4) hx hb dX7_numbersOf_90 (by decide) ?_
            obtain rfl := sm1 hE
            exact xr_i hx hb hr hlk hG hI dX7_numbersOf_91
          · rw [if_neg k1_109] at hE
            by_cases k1_112 : p0 = 112
            · rw [if_pos k1_112] at hE
              refine lv_tableIn (tgt := 96) hx hb dX7_numbersOf_1 (by rw [k1_112]; decide) (by rw [k1_112]; decide) (by rw [k1_112]; rfl) (by decide) ?_
              refine lv_iconst (v := 1) hx hb dX7_numbersOf_96 (by decide) ?_
              obtain rfl := sm1 hE
              exact xr_i hx hb hr hlk hG hI dX7_numbersOf_97
            · rw [if_neg k1_112] at hE
              by_cases k1_114 : p0 = 114
              · rw [if_pos k1_114] at hE
                refine lv_tableIn (tgt := 92) hx hb dX7_numbersOf_1 (by rw [k1_114]; decide) (by rw [k1_114]; decide) (by rw [k1_114]; rfl) (by decide) ?_
                refine lv_iconst (v := 3) hx hb dX7_numbersOf_92 (by decide) ?_
                obtain rfl := sm1 hE
                exact xr_i hx hb hr hlk hG hI dX7_numbersOf_93
              · rw [if_neg k1_114] at hE
                refine xs_dflt (tgt := 100) hx hb dX7_numbersOf_1 (fun j hj => match j, hj with | 0, _ => Or.inr (lv_neT k1_97 rfl) | 1, _ => Or.inl rfl | 2, _ => Or.inl rfl | 3, _ => Or.inr (lv_neT k1_100 rfl) | 4, _ => Or.inr (lv_neT k1_101 rfl) | 5, _ => Or.inr (lv_neT k1_102 rfl) | 6, _ => Or.inl rfl | 7, _ => Or.inl rfl | 8, _ => Or.inl rfl | 9, _ => Or.inl rfl | 10, _ => Or.inl rfl | 11, _ => Or.inl rfl | 12, _ => Or.inr (lv_neT k1_109 rfl) | 13, _ => Or.inl rfl | 14, _ => Or.inl rfl | 15, _ => Or.inr (lv_neT k1_112 rfl) | 16, _ => Or.inl rfl | 17, _ => Or.inr (lv_neT k1_114 rfl) | q + 18, hq => absurd hq (Nat.not_lt.mpr (Nat.le_add_left _ _))) (by decide) (by decide) ?_
                refine lv_iconst (v := (-1)) hx hb dX7_numbersOf_100 (by decide) ?_
                obtain rfl := sm1 hE
                exact xr_i hx hb hr hlk hG hI dX7_numbersOf_101
def X7_isCell (p0 : Int32) (p1 : Int32) : Option (Bool) :=
  (if p0 < 0 then some false else (if 75 ≤ p0 then some false else (if p1 < 0 then some false else (if 6 ≤ p1 then some false else some true))))
set_option maxHeartbeats 4000000 in
set_option maxRecDepth 100000 in
theorem c_X7_isCell {l : Launch} {D : va_G} {cI cZ cD : ClassId} {w : va_W} {p0 : Int32} {p1 : Int32} {r : Bool}  (hE : X7_isCell p0 p1 = some (r)) : Ct l yX7_isCell cX7_isCell 2 (some .boolean) (rmOf 0 0) D (tyL cI cZ cD) [.int p0, .int p1] w (some (.int (b2i r))) w := by
  refine Ct.ofW (by decide +kernel) (fun p e s m below meth c hC hI => ?_)
  obtain ⟨hx, hb, hml, hown, hr, hlk, hG⟩ := hC
  have hown : s.vm.findClass RX7 = some m.cls := hown
  have hl := lv_entry ([.int p0, .int p1] : List Value) (n := 2) (Nat.le_of_ble_eq_true rfl)
  rw [lg_entry_eq]
  generalize (lg_sl ([.int p0, .int p1] : List Value) ++ List.replicate (2 - (lg_sl ([.int p0, .int p1] : List Value)).length) Slot.unset).toArray = ls at hl ⊢
  have hl : lv_has ls 2 [(0, .int p0), (1, .int p1)] := hl
  unfold X7_isCell at hE
  refine lv_iload_n hx hb dX7_isCell_0 rfl (lv_at hl 0 rfl) ?_
  refine lv_if_lt (tgt := 24) hx hb dX7_isCell_1 (by decide) (fun c1 => ?_) (fun c1 => ?_)
  · rw [if_pos c1] at hE
    refine lv_iconst (v := 0) hx hb dX7_isCell_24 (by decide) ?_
    obtain rfl := sm1 hE
    exact xr_z rfl hx hb hr hlk hG hI dX7_isCell_25
  · rw [if_neg c1] at hE
    refine lv_iload_n hx hb dX7_isCell_4 rfl (lv_at hl 0 rfl) ?_
    refine lv_bipush (v := 75) hx hb dX7_isCell_5 (by decide) ?_
    refine lv_icmp_ge (tgt := 24) hx hb dX7_isCell_7 (by decide) (fun c7 => ?_) (fun c7 => ?_)
    · rw [if_pos c7] at hE
      refine lv_iconst (v := 0) hx hb dX7_isCell_24 (by decide) ?_
      obtain rfl := sm1 hE
      exact xr_z rfl hx hb hr hlk hG hI dX7_isCell_25
    · rw [if_neg c7] at hE
      refine lv_iload_n hx hb dX7_isCell_10 rfl (lv_at hl 1 rfl) ?_
      refine lv_if_lt (tgt := 24) hx hb dX7_isCell_11 (by decide) (fun c11 => ?_) (fun c11 => ?_)
      · rw [if_pos c11] at hE
        refine lv_iconst (v := 0) hx hb dX7_isCell_24 (by decide) ?_
        obtain rfl := sm1 hE
        exact xr_z rfl hx hb hr hlk hG hI dX7_isCell_25
      · rw [if_neg c11] at hE
        refine lv_iload_n hx hb dX7_isCell_14 rfl (lv_at hl 1 rfl) ?_
        refine lv_bipush (v := 6) hx hb dX7_isCell_15 (by decide) ?_
        refine lv_icmp_ge (tgt := 24) hx hb dX7_isCell_17 (by decide) (fun c17 => ?_) (fun c17 => ?_)
        · rw [if_pos c17] at hE
          refine lv_iconst (v := 0) hx hb dX7_isCell_24 (by decide) ?_
          obtain rfl := sm1 hE
          exact xr_z rfl hx hb hr hlk hG hI dX7_isCell_25
        · rw [if_neg c17] at hE
          refine lv_iconst (v := 1) hx hb dX7_isCell_20 (by decide) ?_
          refine lv_goto (tgt := 25) hx hb dX7_isCell_21 (by decide) ?_
          obtain rfl := sm1 hE
          exact xr_z rfl hx hb hr hlk hG hI dX7_isCell_25
def X8_mixed (p0 : Int64) (p2 : Int32) : Option (Int64) :=
  some ((31 * p0) + ((p2 : Int32).toInt64))
set_option maxHeartbeats 4000000 in
set_option maxRecDepth 100000 in
theorem c_X8_mixed {l : Launch} {D : va_G} {cI cZ cD : ClassId} {w : va_W} {p0 : Int64} {p2 : Int32} {r : Int64}  (hE : X8_mixed p0 p2 = some (r)) : Ct l yX8_mixed cX8_mixed 3 (some .long) (rmOf 0 0) D (tyL cI cZ cD) [.long p0, .int p2] w (some (.long r)) w := by
  refine Ct.ofW (by decide +kernel) (fun p e s m below meth c hC hI => ?_)
  obtain ⟨hx, hb, hml, hown, hr, hlk, hG⟩ := hC
  have hown : s.vm.findClass RX8 = some m.cls := hown
  have hl := lv_entry ([.long p0, .int p2] : List Value) (n := 3) (Nat.le_of_ble_eq_true rfl)
  rw [lg_entry_eq]
  generalize (lg_sl ([.long p0, .int p2] : List Value) ++ List.replicate (3 - (lg_sl ([.long p0, .int p2] : List Value)).length) Slot.unset).toArray = ls at hl ⊢
  have hl : lv_has ls 3 [(0, .long p0), (2, .int p2)] := hl
  unfold X8_mixed at hE
  refine lv_ldc2 (v := 31) hx hb hown (hG.2 _ kc_X8_238 _) dX8_mixed_0 ?_
  refine lv_lload_n hx hb dX8_mixed_3 rfl (lv_at hl 0 rfl) ?_
  refine lv_lmul hx hb dX8_mixed_4 ?_
  refine lv_iload_n hx hb dX8_mixed_5 rfl (lv_at hl 1 rfl) ?_
  refine lv_i2l (v := (p2 : Int32).toInt64) hx hb dX8_mixed_6 rfl ?_
  refine lv_ladd hx hb dX8_mixed_7 ?_
  obtain rfl := sm1 hE
  exact xr_l hx hb hr hlk hG hI dX8_mixed_8
def X9_in (p0 : Int32) (p1 : Int32) (p2 : Int32) : Option (Bool) :=
  (if p0 < p1 then some false else (if p2 < p0 then some false else some true))
set_option maxHeartbeats 4000000 in
set_option maxRecDepth 100000 in
theorem c_X9_in {l : Launch} {D : va_G} {cI cZ cD : ClassId} {w : va_W} {p0 : Int32} {p1 : Int32} {p2 : Int32} {r : Bool}  (hE : X9_in p0 p1 p2 = some (r)) : Ct l yX9_in cX9_in 3 (some .boolean) (rmOf 0 0) D (tyL cI cZ cD) [.int p0, .int p1, .int p2] w (some (.int (b2i r))) w := by
  refine Ct.ofW (by decide +kernel) (fun p e s m below meth c hC hI => ?_)
  obtain ⟨hx, hb, hml, hown, hr, hlk, hG⟩ := hC
  have hown : s.vm.findClass RX9 = some m.cls := hown
  have hl := lv_entry ([.int p0, .int p1, .int p2] : List Value) (n := 3) (Nat.le_of_ble_eq_true rfl)
  rw [lg_entry_eq]
  generalize (lg_sl ([.int p0, .int p1, .int p2] : List Value) ++ List.replicate (3 - (lg_sl ([.int p0, .int p1, .int p2] : List Value)).length) Slot.unset).toArray = ls at hl ⊢
  have hl : lv_has ls 3 [(0, .int p0), (1, .int p1), (2, .int p2)] := hl
  unfold X9_in at hE
  refine lv_iload_n hx hb dX9_in_0 rfl (lv_at hl 0 rfl) ?_
  refine lv_iload_n hx hb dX9_in_1 rfl (lv_at hl 1 rfl) ?_
  refine lv_icmp_lt (tgt := 14) hx hb dX9_in_2 (by decide) (fun c2 => ?_) (fun c2 => ?_)
  · rw [if_pos c2] at hE
    refine lv_iconst (v := 0) hx hb dX9_in_14 (by decide) ?_
    obtain rfl := sm1 hE
    exact xr_z rfl hx hb hr hlk hG hI dX9_in_15
  · rw [if_neg c2] at hE
    refine lv_iload_n hx hb dX9_in_5 rfl (lv_at hl 0 rfl) ?_
    refine lv_iload_n hx hb dX9_in_6 rfl (lv_at hl 2 rfl) ?_
    refine lv_icmp_gt (tgt := 14) hx hb dX9_in_7 (by decide) (fun c7 => ?_) (fun c7 => ?_)
    · rw [if_pos c7] at hE
      refine lv_iconst (v := 0) hx hb dX9_in_14 (by decide) ?_
      obtain rfl := sm1 hE
      exact xr_z rfl hx hb hr hlk hG hI dX9_in_15
    · rw [if_neg c7] at hE
      refine lv_iconst (v := 1) hx hb dX9_in_10 (by decide) ?_
      refine lv_goto (tgt := 15) hx hb dX9_in_11 (by decide) ?_
      obtain rfl := sm1 hE
      exact xr_z rfl hx hb hr hlk hG hI dX9_in_15
def X9_isRefused (p0 : Int32) : Option (Bool) :=
  (if (-2) < p0 then some false else (if p0 < (-4) then some false else some true))
set_option maxHeartbeats 4000000 in
set_option maxRecDepth 100000 in
theorem c_X9_isRefused {l : Launch} {D : va_G} {cI cZ cD : ClassId} {w : va_W} {p0 : Int32} {r : Bool}  (hE : X9_isRefused p0 = some (r)) : Ct l yX9_isRefused cX9_isRefused 1 (some .boolean) (rmOf 0 0) D (tyL cI cZ cD) [.int p0] w (some (.int (b2i r))) w := by
  refine Ct.ofW (by decide +kernel) (fun p e s m below meth c hC hI => ?_)
  obtain ⟨hx, hb, hml, hown, hr, hlk, hG⟩ := hC
  have hown : s.vm.findClass RX9 = some m.cls := hown
  have hl := lv_entry ([.int p0] : List Value) (n := 1) (Nat.le_of_ble_eq_true rfl)
  rw [lg_entry_eq]
  generalize (lg_sl ([.int p0] : List Value) ++ List.replicate (1 - (lg_sl ([.int p0] : List Value)).length) Slot.unset).toArray = ls at hl ⊢
  have hl : lv_has ls 1 [(0, .int p0)] := hl
  unfold X9_isRefused at hE
  refine lv_iload_n hx hb dX9_isRefused_0 rfl (lv_at hl 0 rfl) ?_
  refine lv_bipush (v := (-2)) hx hb dX9_isRefused_1 (by decide) ?_
  refine lv_icmp_gt (tgt := 16) hx hb dX9_isRefused_3 (by decide) (fun c3 => ?_) (fun c3 => ?_)
  · rw [if_pos c3] at hE
    refine lv_iconst (v := 0) hx hb dX9_isRefused_16 (by decide) ?_
    obtain rfl := sm1 hE
    exact xr_z rfl hx hb hr hlk hG hI dX9_isRefused_17
  · rw [if_neg c3] at hE
    refine lv_iload_n hx hb dX9_isRefused_6 rfl (lv_at hl 0 rfl) ?_
    refine lv_bipush (v := (-4)) hx hb dX9_isRefused_7 (by decide) ?_
    refine lv_icmp_lt (tgt := 16) hx hb dX9_isRefused_9 (by decide) (fun c9 => ?_) (fun c9 => ?_)
    · rw [if_pos c9] at hE
      refine lv_iconst (v := 0) hx hb dX9_isRefused_16 (by decide) ?_
      obtain rfl := sm1 hE
      exact xr_z rfl hx hb hr hlk hG hI dX9_isRefused_17
    · rw [if_neg c9] at hE
      refine lv_iconst (v := 1) hx hb dX9_isRefused_12 (by decide) ?_
      refine lv_goto (tgt := 17) hx hb dX9_isRefused_13 (by decide) ?_
      obtain rfl := sm1 hE
      exact xr_z rfl hx hb hr hlk hG hI dX9_isRefused_17
def X9_ones_L4 (p0 : Int32) : Nat → Int32 → Int32 → Option (Int32)
  | 0, _, _ => none
  | n4 + 1, x1, x2 =>
    (if 16 ≤ x2 then some x1 else X9_ones_L4 p0 n4 (x1 + ((p0 >>> (x2 &&& 31)) &&& 1)) (x2 + 1))
def X9_ones (p0 : Int32) : Option (Int32) :=
  (X9_ones_L4 p0 fu 0 0 : Option Int32).bind fun (x3 : Int32) => some x3
set_option maxHeartbeats 4000000 in
set_option maxRecDepth 100000 in
theorem c_X9_ones {l : Launch} {D : va_G} {cI cZ cD : ClassId} {w : va_W} {p0 : Int32} {r : Int32}  (hE : X9_ones p0 = some (r)) : Ct l yX9_ones cX9_ones 3 (some .int) (rmOf 0 0) D (tyL cI cZ cD) [.int p0] w (some (.int r)) w := by
  refine Ct.ofW (by decide +kernel) (fun p e s m below meth c hC hI => ?_)
  obtain ⟨hx, hb, hml, hown, hr, hlk, hG⟩ := hC
  have hown : s.vm.findClass RX9 = some m.cls := hown
  have hl := lv_entry ([.int p0] : List Value) (n := 3) (Nat.le_of_ble_eq_true rfl)
  rw [lg_entry_eq]
  generalize (lg_sl ([.int p0] : List Value) ++ List.replicate (3 - (lg_sl ([.int p0] : List Value)).length) Slot.unset).toArray = ls at hl ⊢
  have hl : lv_has ls 3 [(0, .int p0)] := hl
  unfold X9_ones at hE
  refine lv_iconst (v := 0) hx hb dX9_ones_0 (by decide) ?_
  refine lv_istore_n (lv' := [(1, .int 0), (0, .int p0)]) hx hb dX9_ones_1 rfl hl (by decide) rfl (fun ls hl => ?_)
  refine lv_iconst (v := 0) hx hb dX9_ones_2 (by decide) ?_
  refine lv_istore_n (lv' := [(2, .int 0), (1, .int 0), (0, .int p0)]) hx hb dX9_ones_3 rfl hl (by decide) rfl (fun ls hl => ?_)
  obtain ⟨x3, hZ, hE⟩ := bd1_some hE
  have hX4_3 : ∀ (H : Heap) (locs : List Loc) (ls : Array Slot), xI D (va_A w s.heap.size) s.heap w H locs → lv_has ls 3 [(1, .int x3)] → W p l e (rmOf 0 0) s m ([.int p0] : List Value).toArray below meth c H locs 0 0 (xQ D (tyL cI cZ cD) below ([.int p0] : List Value).toArray s w (some (.int r)) w) (F0 m 24 ls []) := by
    intro H locs ls hI hl
    clear hZ
    refine lv_iload_n hx hb dX9_ones_24 rfl (lv_at hl 0 rfl) ?_
    obtain rfl := sm1 hE
    exact xr_i hx hb hr hlk hG hI dX9_ones_25
  replace hE := hZ
  clear hZ
  have hL4 : ∀ (n4 : Nat) (x1 : Int32) (x2 : Int32) (H : Heap) (locs : List Loc) (ls : Array Slot), X9_ones_L4 p0 n4 x1 x2 = some x3 → xI D (va_A w s.heap.size) s.heap w H locs → lv_has ls 3 [(0, .int p0), (1, .int x1), (2, .int x2)] → W p l e (rmOf 0 0) s m ([.int p0] : List Value).toArray below meth c H locs 0 0 (xQ D (tyL cI cZ cD) below ([.int p0] : List Value).toArray s w (some (.int r)) w) (F0 m 4 ls []) := by
    intro n4
    induction n4 with
    | zero =>
      intro x1 x2 H locs ls hE
      exact absurd hE (by simp [X9_ones_L4])
    | succ n4 ih4 =>
      intro x1 x2 H locs ls hE hI hl
      rw [X9_ones_L4] at hE
      refine lv_iload_n hx hb dX9_ones_4 rfl (lv_at hl 2 rfl) ?_
      refine lv_bipush (v := 16) hx hb dX9_ones_5 (by decide) ?_
      refine lv_icmp_ge (tgt := 24) hx hb dX9_ones_7 (by decide) (fun c7 => ?_) (fun c7 => ?_)
      · rw [if_pos c7] at hE
        obtain rfl := sm1 hE
        exact hX4_3 _ _ _ hI (lv_sub hl [1] rfl)
      · rw [if_neg c7] at hE
        refine lv_iload_n hx hb dX9_ones_10 rfl (lv_at hl 1 rfl) ?_
        refine lv_iload_n hx hb dX9_ones_11 rfl (lv_at hl 0 rfl) ?_
        refine lv_iload_n hx hb dX9_ones_12 rfl (lv_at hl 2 rfl) ?_
        refine lv_ishr hx hb dX9_ones_13 ?_
        refine lv_iconst (v := 1) hx hb dX9_ones_14 (by decide) ?_
        refine lv_iand hx hb dX9_ones_15 ?_
        refine lv_iadd hx hb dX9_ones_16 ?_
        refine lv_istore_n (lv' := [(1, .int (x1 + ((p0 >>> (x2 &&& 31)) &&& 1))), (0, .int p0), (2, .int x2)]) hx hb dX9_ones_17 rfl hl (by decide) rfl (fun ls hl => ?_)
        refine lv_iinc (v := x2 + 1) (lv' := [(2, .int (x2 + 1)), (1, .int (x1 + ((p0 >>> (x2 &&& 31)) &&& 1))), (0, .int p0)]) hx hb dX9_ones_18 hl (k := 2) rfl rfl (by decide) rfl (fun ls hl => ?_)
        refine lv_goto (tgt := 4) hx hb dX9_ones_21 (by decide) ?_
        exact ih4 _ _ _ _ _ hE hI (lv_sub hl [2, 1, 0] rfl)
  exact hL4 _ _ _ _ _ _ hE hI (lv_sub hl [2, 1, 0] rfl)
def X9_isOutline (p0 : Int32) : Option (Bool) :=
  (X9_in p0 0 2 : Option Bool).bind fun (r1 : Bool) => some r1
set_option maxHeartbeats 4000000 in
set_option maxRecDepth 100000 in
theorem c_X9_isOutline {l : Launch} {D : va_G} {cI cZ cD : ClassId} {w : va_W} {p0 : Int32} {r : Bool}  (hE : X9_isOutline p0 = some (r)) : Ct l yX9_isOutline cX9_isOutline 1 (some .boolean) (rmOf 1 22) D (tyL cI cZ cD) [.int p0] w (some (.int (b2i r))) w := by
  refine Ct.ofW (by decide +kernel) (fun p e s m below meth c hC hI => ?_)
  obtain ⟨hx, hb, hml, hown, hr, hlk, hG⟩ := hC
  have hown : s.vm.findClass RX9 = some m.cls := hown
  have hl := lv_entry ([.int p0] : List Value) (n := 1) (Nat.le_of_ble_eq_true rfl)
  rw [lg_entry_eq]
  generalize (lg_sl ([.int p0] : List Value) ++ List.replicate (1 - (lg_sl ([.int p0] : List Value)).length) Slot.unset).toArray = ls at hl ⊢
  have hl : lv_has ls 1 [(0, .int p0)] := hl
  unfold X9_isOutline at hE
  refine lv_iload_n hx hb dX9_isOutline_0 rfl (lv_at hl 0 rfl) ?_
  refine lv_iconst (v := 0) hx hb dX9_isOutline_1 (by decide) ?_
  refine lv_iconst (v := 2) hx hb dX9_isOutline_2 (by decide) ?_
  obtain ⟨r1, hc, hE⟩ := bd1_some hE
  refine xc_S1 (rest := []) (c_X9_in hc) mw_X9_in km_X9_68 hx hb hml hown hG hI xA_of ⟨Nat.le_of_ble_eq_true rfl, Nat.le_of_ble_eq_true rfl⟩ rfl hl.1 rfl (Nat.le_of_ble_eq_true rfl) dX9_isOutline_3 (fun H locs hI => ?_)
  obtain rfl := sm1 hE
  exact xr_z rfl hx hb hr hlk hG hI dX9_isOutline_6
def X9_isWord (p0 : Int32) : Option (Bool) :=
  (X9_in p0 0 99 : Option Bool).bind fun (r1 : Bool) => some r1
set_option maxHeartbeats 4000000 in
set_option maxRecDepth 100000 in
theorem c_X9_isWord {l : Launch} {D : va_G} {cI cZ cD : ClassId} {w : va_W} {p0 : Int32} {r : Bool}  (hE : X9_isWord p0 = some (r)) : Ct l yX9_isWord cX9_isWord 1 (some .boolean) (rmOf 1 22) D (tyL cI cZ cD) [.int p0] w (some (.int (b2i r))) w := by
  refine Ct.ofW (by decide +kernel) (fun p e s m below meth c hC hI => ?_)
  obtain ⟨hx, hb, hml, hown, hr, hlk, hG⟩ := hC
  have hown : s.vm.findClass RX9 = some m.cls := hown
  have hl := lv_entry ([.int p0] : List Value) (n := 1) (Nat.le_of_ble_eq_true rfl)
  rw [lg_entry_eq]
  generalize (lg_sl ([.int p0] : List Value) ++ List.replicate (1 - (lg_sl ([.int p0] : List Value)).length) Slot.unset).toArray = ls at hl ⊢
  have hl : lv_has ls 1 [(0, .int p0)] := hl
  unfold X9_isWord at hE
  refine lv_iload_n hx hb dX9_isWord_0 rfl (lv_at hl 0 rfl) ?_
  refine lv_iconst (v := 0) hx hb dX9_isWord_1 (by decide) ?_
  refine lv_bipush (v := 99) hx hb dX9_isWord_2 (by decide) ?_
  obtain ⟨r1, hc, hE⟩ := bd1_some hE
  refine xc_S1 (rest := []) (c_X9_in hc) mw_X9_in km_X9_68 hx hb hml hown hG hI xA_of ⟨Nat.le_of_ble_eq_true rfl, Nat.le_of_ble_eq_true rfl⟩ rfl hl.1 rfl (Nat.le_of_ble_eq_true rfl) dX9_isWord_4 (fun H locs hI => ?_)
  obtain rfl := sm1 hE
  exact xr_z rfl hx hb hr hlk hG hI dX9_isWord_7
def X9_wantsOf (p0 : Int32) : Option (Int32) :=
  (if p0 = 97 then some 5 else (if p0 = 100 then some 2 else (if p0 = 101 then some 3 else (if p0 = 102 then some 0 else (if p0 = 109 then some 4 else (if p0 = 112 then some 1 else (if p0 = 114 then some 3 else some (-1))))))))
set_option maxHeartbeats 4000000 in
set_option maxRecDepth 100000 in
theorem c_X9_wantsOf {l : Launch} {D : va_G} {cI cZ cD : ClassId} {w : va_W} {p0 : Int32} {r : Int32}  (hE : X9_wantsOf p0 = some (r)) : Ct l yX9_wantsOf cX9_wantsOf 1 (some .int) (rmOf 0 0) D (tyL cI cZ cD) [.int p0] w (some (.int r)) w := by
  refine Ct.ofW (by decide +kernel) (fun p e s m below meth c hC hI => ?_)
  obtain ⟨hx, hb, hml, hown, hr, hlk, hG⟩ := hC
  have hown : s.vm.findClass RX9 = some m.cls := hown
  have hl := lv_entry ([.int p0] : List Value) (n := 1) (Nat.le_of_ble_eq_true rfl)
  rw [lg_entry_eq]
  generalize (lg_sl ([.int p0] : List Value) ++ List.replicate (1 - (lg_sl ([.int p0] : List Value)).length) Slot.unset).toArray = ls at hl ⊢
  have hl : lv_has ls 1 [(0, .int p0)] := hl
  unfold X9_wantsOf at hE
  refine lv_iload_n hx hb dX9_wantsOf_0 rfl (lv_at hl 0 rfl) ?_
  by_cases k1_97 : p0 = 97
  · rw [if_pos k1_97] at hE
    refine lv_tableIn (tgt := 98) hx hb dX9_wantsOf_1 (by rw [k1_97]; decide) (by rw [k1_97]; decide) (by rw [k1_97]; rfl) (by decide) ?_
    refine lv_iconst (v := 5) hx hb dX9_wantsOf_98 (by decide) ?_
    obtain rfl := sm1 hE
    exact xr_i hx hb hr hlk hG hI dX9_wantsOf_99
  · rw [if_neg k1_97] at hE
    by_cases k1_100 : p0 = 100
    · rw [if_pos k1_100] at hE
      refine lv_tableIn (tgt := 92) hx hb dX9_wantsOf_1 (by rw [k1_100]; decide) (by rw [k1_100]; decide) (by rw [k1_100]; rfl) (by decide) ?_
      refine lv_iconst (v := 2) hx hb dX9_wantsOf_92 (by decide) ?_
      obtain rfl := sm1 hE
      exact xr_i hx hb hr hlk hG hI dX9_wantsOf_93
    · rw [if_neg k1_100] at hE
      by_cases k1_101 : p0 = 101
      · rw [if_pos k1_101] at hE
        refine lv_tableIn (tgt := 94) hx hb dX9_wantsOf_1 (by rw [k1_101]; decide) (by rw [k1_101]; decide) (by rw [k1_101]; rfl) (by decide) ?_
        refine lv_iconst (v := 3) hx hb dX9_wantsOf_94 (by decide) ?_
        obtain rfl := sm1 hE
        exact xr_i hx hb hr hlk hG hI dX9_wantsOf_95
      · rw [if_neg k1_101] at hE
        by_cases k1_102 : p0 = 102
        · rw [if_pos k1_102] at hE
          refine lv_tableIn (tgt := 88) hx hb dX9_wantsOf_1 (by rw [k1_102]; decide) (by rw [k1_102]; decide) (by rw [k1_102]; rfl) (by decide) ?_
          refine lv_iconst (v := 0) hx hb dX9_wantsOf_88 (by decide) ?_
          obtain rfl := sm1 hE
          exact xr_i hx hb hr hlk hG hI dX9_wantsOf_89
        · rw [if_neg k1_102] at hE
          by_cases k1_109 : p0 = 109
          · rw [if_pos k1_109] at hE
            refine lv_tableIn (tgt := 96) hx hb dX9_wantsOf_1 (by rw [k1_109]; decide) (by rw [k1_109]; decide) (by rw [k1_109]; rfl) (by decide) ?_
            refine lv_iconst (v := 4) hx hb dX9_wantsOf_96 (by decide) ?_
            obtain rfl := sm1 hE
            exact xr_i hx hb hr hlk hG hI dX9_wantsOf_97
          · rw [if_neg k1_109] at hE
            by_cases k1_112 : p0 = 112
            · rw [if_pos k1_112] at hE
              refine lv_tableIn (tgt := 90) hx hb dX9_wantsOf_1 (by rw [k1_112]; decide) (by rw [k1_112]; decide) (by rw [k1_112]; rfl) (by decide) ?_
              refine lv_iconst (v := 1) hx hb dX9_wantsOf_90 (by decide) ?_
              obtain rfl := sm1 hE
              exact xr_i hx hb hr hlk hG hI dX9_wantsOf_91
            · rw [if_neg k1_112] at hE
              by_cases k1_114 : p0 = 114
              · rw [if_pos k1_114] at hE
                refine lv_tableIn (tgt := 94) hx hb dX9_wantsOf_1 (by rw [k1_114]; decide) (by rw [k1_114]; decide) (by rw [k1_114]; rfl) (by decide) ?_
                refine lv_iconst (v := 3) hx hb dX9_wantsOf_94 (by decide) ?_
                obtain rfl := sm1 hE
                exact xr_i hx hb hr hlk hG hI dX9_wantsOf_95
              · rw [if_neg k1_114] at hE
                refine xs_dflt (tgt := 100) hx hb dX9_wantsOf_1 (fun j hj => match j, hj with | 0, _ => Or.inr (lv_neT k1_97 rfl) | 1, _ => Or.inl rfl | 2, _ => Or.inl rfl | 3, _ => Or.inr (lv_neT k1_100 rfl) | 4, _ => Or.inr (lv_neT k1_101 rfl) | 5, _ => Or.inr (lv_neT k1_102 rfl) | 6, _ => Or.inl rfl | 7, _ => Or.inl rfl | 8, _ => Or.inl rfl | 9, _ => Or.inl rfl | 10, _ => Or.inl rfl | 11, _ => Or.inl rfl | 12, _ => Or.inr (lv_neT k1_109 rfl) | 13, _ => Or.inl rfl | 14, _ => Or.inl rfl | 15, _ => Or.inr (lv_neT k1_112 rfl) | 16, _ => Or.inl rfl | 17, _ => Or.inr (lv_neT k1_114 rfl) | q + 18, hq => absurd hq (Nat.not_lt.mpr (Nat.le_add_left _ _))) (by decide) (by decide) ?_
                refine lv_iconst (v := (-1)) hx hb dX9_wantsOf_100 (by decide) ?_
                obtain rfl := sm1 hE
                exact xr_i hx hb hr hlk hG hI dX9_wantsOf_101
