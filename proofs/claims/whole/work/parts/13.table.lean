def X6_wipe (u : Mem) (p0 : Nat) : Option (Mem) :=
  (stF u (64 + 4 * p0) 3 0).bind fun mu1 => some mu1
set_option maxHeartbeats 4000000 in
set_option maxRecDepth 100000 in
theorem c_X6_wipe {l : Launch} {D : va_G} {A : Nat → Nat} {cI cZ cD : ClassId} {u u1 : Mem} {p0 : Nat} (hp0 : p0 < 2) (hE : X6_wipe u p0 = some (u1)) : Ct l yX6_wipe cX6_wipe 1 none (rmOf 0 0) D (tyL cI cZ cD) [.ref (A (64 + 4 * p0))] (wX A cI cZ cD u) none (wX A cI cZ cD u1) := by
  refine Ct.ofW (by decide +kernel) (fun p e s m below meth c hC hI => ?_)
  obtain ⟨hx, hb, hml, hown, hr, hlk, hG⟩ := hC
  have hown : s.vm.findClass RX6 = some m.cls := hown
  have hl := lv_entry ([.ref (A (64 + 4 * p0))] : List Value) (n := 1) (Nat.le_of_ble_eq_true rfl)
  rw [lg_entry_eq]
  generalize (lg_sl ([.ref (A (64 + 4 * p0))] : List Value) ++ List.replicate (1 - (lg_sl ([.ref (A (64 + 4 * p0))] : List Value)).length) Slot.unset).toArray = ls at hl ⊢
  have hl : lv_has ls 1 [(0, .ref (A (64 + 4 * p0)))] := hl
  unfold X6_wipe at hE
  refine lv_aload_n hx hb dX6_wipe_0 rfl (lv_at hl 0 rfl) ?_
  refine lv_iconst (v := 0) hx hb dX6_wipe_1 (by decide) ?_
  obtain ⟨mu1, hu, hE⟩ := bd1_some hE
  refine xg_put (C := RX6) (T := TX6) (M := 4) hx hb hown hG hI (by omega) (eX_T (t := p0) (by omega)) rfl inX6 tyX6 tyX6_ok nmX6 3 (by decide) kf_X6_9 rfl (ty := .int) (by decide +kernel) rfl rfl (Nat.le_of_ble_eq_true rfl) (by rw [eX_T (t := p0) (by omega)]; rfl) hu dX6_wipe_2 (fun H locs hI => ?_)
  obtain rfl := sm1 hE
  exact xr_v hx hb hr hlk hG hI dX6_wipe_5
def X6_tell (u : Mem) (p0 : Nat) (p1 : Int32) (p2 : Int32) (p3 : Int32) : Option (Mem) :=
  (if (u (64 + 4 * p0) 3) < 0 then some u else (if (Int32.ofNat (lenT p0)) ≤ (u (64 + 4 * p0) 3) then some u else (if (Int32.ofNat (lenT p0)) ≤ (u (64 + 4 * p0) 3) then some u else (if (Int32.ofNat (lenT p0)) ≤ (u (64 + 4 * p0) 3) then some u else (stI (lenT p0) u (64 + 4 * p0 + 1) (u (64 + 4 * p0) 3) p1).bind fun mu1 => (stI (lenT p0) mu1 (64 + 4 * p0 + 2) (mu1 (64 + 4 * p0) 3) p2).bind fun mu2 => (stI (lenT p0) mu2 (64 + 4 * p0 + 3) (mu2 (64 + 4 * p0) 3) p3).bind fun mu3 => (stF mu3 (64 + 4 * p0) 3 ((mu3 (64 + 4 * p0) 3) + 1)).bind fun mu4 => some mu4))))
set_option maxHeartbeats 4000000 in
set_option maxRecDepth 100000 in
theorem c_X6_tell {l : Launch} {D : va_G} {A : Nat → Nat} {cI cZ cD : ClassId} {u u1 : Mem} {p0 : Nat} {p1 : Int32} {p2 : Int32} {p3 : Int32} (hp0 : p0 < 2) (hE : X6_tell u p0 p1 p2 p3 = some (u1)) : Ct l yX6_tell cX6_tell 4 none (rmOf 0 0) D (tyL cI cZ cD) [.ref (A (64 + 4 * p0)), .int p1, .int p2, .int p3] (wX A cI cZ cD u) none (wX A cI cZ cD u1) := by
  refine Ct.ofW (by decide +kernel) (fun p e s m below meth c hC hI => ?_)
  obtain ⟨hx, hb, hml, hown, hr, hlk, hG⟩ := hC
  have hown : s.vm.findClass RX6 = some m.cls := hown
  have hl := lv_entry ([.ref (A (64 + 4 * p0)), .int p1, .int p2, .int p3] : List Value) (n := 4) (Nat.le_of_ble_eq_true rfl)
  rw [lg_entry_eq]
  generalize (lg_sl ([.ref (A (64 + 4 * p0)), .int p1, .int p2, .int p3] : List Value) ++ List.replicate (4 - (lg_sl ([.ref (A (64 + 4 * p0)), .int p1, .int p2, .int p3] : List Value)).length) Slot.unset).toArray = ls at hl ⊢
  have hl : lv_has ls 4 [(0, .ref (A (64 + 4 * p0))), (1, .int p1), (2, .int p2), (3, .int p3)] := hl
  unfold X6_tell at hE
  refine lv_aload_n hx hb dX6_tell_0 rfl (lv_at hl 0 rfl) ?_
  refine xg_get (C := RX6) (T := TX6) (M := 4) hx hb hown hG hI (by omega) (eX_T (t := p0) (by omega)) rfl inX6 3 (by decide) kf_X6_9 rfl dX6_tell_1 ?_
  refine lv_if_lt (tgt := 83) hx hb dX6_tell_4 (by decide) (fun c4 => ?_) (fun c4 => ?_)
  · rw [if_pos c4] at hE
    obtain rfl := sm1 hE
    exact xr_v hx hb hr hlk hG hI dX6_tell_83
  · rw [if_neg c4] at hE
    refine lv_aload_n hx hb dX6_tell_7 rfl (lv_at hl 0 rfl) ?_
    refine xg_get (C := RX6) (T := TX6) (M := 4) hx hb hown hG hI (by omega) (eX_T (t := p0) (by omega)) rfl inX6 3 (by decide) kf_X6_9 rfl dX6_tell_8 ?_
    refine lv_aload_n hx hb dX6_tell_11 rfl (lv_at hl 0 rfl) ?_
    refine xg_get (C := RX6) (T := TX6) (M := 4) hx hb hown hG hI (by omega) (eX_T (t := p0) (by omega)) rfl inX6 0 (by decide) kf_X6_21 rfl dX6_tell_12 ?_
    refine xg_alen 0 hx hb hG hI (by omega) (eX_T1 (t := p0) (by omega)) rfl rfl dX6_tell_15 ?_
    refine lv_icmp_ge (tgt := 83) hx hb dX6_tell_16 (by decide) (fun c16 => ?_) (fun c16 => ?_)
    · rw [if_pos c16] at hE
      obtain rfl := sm1 hE
      exact xr_v hx hb hr hlk hG hI dX6_tell_83
    · rw [if_neg c16] at hE
      refine lv_aload_n hx hb dX6_tell_19 rfl (lv_at hl 0 rfl) ?_
      refine xg_get (C := RX6) (T := TX6) (M := 4) hx hb hown hG hI (by omega) (eX_T (t := p0) (by omega)) rfl inX6 3 (by decide) kf_X6_9 rfl dX6_tell_20 ?_
      refine lv_aload_n hx hb dX6_tell_23 rfl (lv_at hl 0 rfl) ?_
      refine xg_get (C := RX6) (T := TX6) (M := 4) hx hb hown hG hI (by omega) (eX_T (t := p0) (by omega)) rfl inX6 1 (by decide) kf_X6_25 rfl dX6_tell_24 ?_
      refine xg_alen 0 hx hb hG hI (by omega) (eX_T2 (t := p0) (by omega)) rfl rfl dX6_tell_27 ?_
      refine lv_icmp_ge (tgt := 83) hx hb dX6_tell_28 (by decide) (fun c28 => ?_) (fun c28 => ?_)
      · rw [if_pos c28] at hE
        obtain rfl := sm1 hE
        exact xr_v hx hb hr hlk hG hI dX6_tell_83
      · rw [if_neg c28] at hE
        refine lv_aload_n hx hb dX6_tell_31 rfl (lv_at hl 0 rfl) ?_
        refine xg_get (C := RX6) (T := TX6) (M := 4) hx hb hown hG hI (by omega) (eX_T (t := p0) (by omega)) rfl inX6 3 (by decide) kf_X6_9 rfl dX6_tell_32 ?_
        refine lv_aload_n hx hb dX6_tell_35 rfl (lv_at hl 0 rfl) ?_
        refine xg_get (C := RX6) (T := TX6) (M := 4) hx hb hown hG hI (by omega) (eX_T (t := p0) (by omega)) rfl inX6 2 (by decide) kf_X6_28 rfl dX6_tell_36 ?_
        refine xg_alen 0 hx hb hG hI (by omega) (eX_T3 (t := p0) (by omega)) rfl rfl dX6_tell_39 ?_
        refine lv_icmp_ge (tgt := 83) hx hb dX6_tell_40 (by decide) (fun c40 => ?_) (fun c40 => ?_)
        · rw [if_pos c40] at hE
          obtain rfl := sm1 hE
          exact xr_v hx hb hr hlk hG hI dX6_tell_83
        · rw [if_neg c40] at hE
          refine lv_aload_n hx hb dX6_tell_43 rfl (lv_at hl 0 rfl) ?_
          refine xg_get (C := RX6) (T := TX6) (M := 4) hx hb hown hG hI (by omega) (eX_T (t := p0) (by omega)) rfl inX6 0 (by decide) kf_X6_21 rfl dX6_tell_44 ?_
          refine lv_aload_n hx hb dX6_tell_47 rfl (lv_at hl 0 rfl) ?_
          refine xg_get (C := RX6) (T := TX6) (M := 4) hx hb hown hG hI (by omega) (eX_T (t := p0) (by omega)) rfl inX6 3 (by decide) kf_X6_9 rfl dX6_tell_48 ?_
          refine lv_iload_n hx hb dX6_tell_51 rfl (lv_at hl 1 rfl) ?_
          obtain ⟨mu1, hv, hE⟩ := bd1_some hE
          refine xg_iast 0 hx hb hG hI (by omega) (eX_T1 (t := p0) (by omega)) rfl hv dX6_tell_52 (fun H locs hI => ?_)
          refine lv_aload_n hx hb dX6_tell_53 rfl (lv_at hl 0 rfl) ?_
          refine xg_get (C := RX6) (T := TX6) (M := 4) hx hb hown hG hI (by omega) (eX_T (t := p0) (by omega)) rfl inX6 1 (by decide) kf_X6_25 rfl dX6_tell_54 ?_
          refine lv_aload_n hx hb dX6_tell_57 rfl (lv_at hl 0 rfl) ?_
          refine xg_get (C := RX6) (T := TX6) (M := 4) hx hb hown hG hI (by omega) (eX_T (t := p0) (by omega)) rfl inX6 3 (by decide) kf_X6_9 rfl dX6_tell_58 ?_
          refine lv_iload_n hx hb dX6_tell_61 rfl (lv_at hl 2 rfl) ?_
          obtain ⟨mu2, hv, hE⟩ := bd1_some hE
          refine xg_iast 0 hx hb hG hI (by omega) (eX_T2 (t := p0) (by omega)) rfl hv dX6_tell_62 (fun H locs hI => ?_)
          refine lv_aload_n hx hb dX6_tell_63 rfl (lv_at hl 0 rfl) ?_
          refine xg_get (C := RX6) (T := TX6) (M := 4) hx hb hown hG hI (by omega) (eX_T (t := p0) (by omega)) rfl inX6 2 (by decide) kf_X6_28 rfl dX6_tell_64 ?_
          refine lv_aload_n hx hb dX6_tell_67 rfl (lv_at hl 0 rfl) ?_
          refine xg_get (C := RX6) (T := TX6) (M := 4) hx hb hown hG hI (by omega) (eX_T (t := p0) (by omega)) rfl inX6 3 (by decide) kf_X6_9 rfl dX6_tell_68 ?_
          refine lv_iload_n hx hb dX6_tell_71 rfl (lv_at hl 3 rfl) ?_
          obtain ⟨mu3, hv, hE⟩ := bd1_some hE
          refine xg_iast 0 hx hb hG hI (by omega) (eX_T3 (t := p0) (by omega)) rfl hv dX6_tell_72 (fun H locs hI => ?_)
          refine lv_aload_n hx hb dX6_tell_73 rfl (lv_at hl 0 rfl) ?_
          refine lv_dup hx hb dX6_tell_74 rfl ?_
          refine xg_get (C := RX6) (T := TX6) (M := 4) hx hb hown hG hI (by omega) (eX_T (t := p0) (by omega)) rfl inX6 3 (by decide) kf_X6_9 rfl dX6_tell_75 ?_
          refine lv_iconst (v := 1) hx hb dX6_tell_78 (by decide) ?_
          refine lv_iadd hx hb dX6_tell_79 ?_
          obtain ⟨mu4, hu, hE⟩ := bd1_some hE
          refine xg_put (C := RX6) (T := TX6) (M := 4) hx hb hown hG hI (by omega) (eX_T (t := p0) (by omega)) rfl inX6 tyX6 tyX6_ok nmX6 3 (by decide) kf_X6_9 rfl (ty := .int) (by decide +kernel) rfl rfl (Nat.le_of_ble_eq_true rfl) (by rw [eX_T (t := p0) (by omega)]; rfl) hu dX6_tell_80 (fun H locs hI => ?_)
          obtain rfl := sm1 hE
          exact xr_v hx hb hr hlk hG hI dX6_tell_83
def X6_answer (u : Mem) (p0 : Nat) (p1 : Int32) (p2 : Int32) : Option (Int32) :=
  (if p1 = (-1) then some (u (64 + 4 * p0) 3) else (if p1 < 0 then some (-5) else (if (u (64 + 4 * p0) 3) ≤ p1 then some (-5) else (if (Int32.ofNat (lenT p0)) ≤ p1 then some (-5) else (if (Int32.ofNat (lenT p0)) ≤ p1 then some (-5) else (if p1 < (Int32.ofNat (lenT p0)) then (if p2 = 0 then (rd (lenT p0) (u (64 + 4 * p0 + 1)) p1).bind fun v3 => some v3 else (if p2 = 1 then (rd (lenT p0) (u (64 + 4 * p0 + 2)) p1).bind fun v2 => some v2 else (rd (lenT p0) (u (64 + 4 * p0 + 3)) p1).bind fun v1 => some v1)) else some (-5)))))))
set_option maxHeartbeats 4000000 in
set_option maxRecDepth 100000 in
theorem c_X6_answer {l : Launch} {D : va_G} {A : Nat → Nat} {cI cZ cD : ClassId} {u : Mem} {p0 : Nat} {p1 : Int32} {p2 : Int32} {r : Int32} (hp0 : p0 < 2) (hE : X6_answer u p0 p1 p2 = some (r)) : Ct l yX6_answer cX6_answer 3 (some .int) (rmOf 0 0) D (tyL cI cZ cD) [.ref (A (64 + 4 * p0)), .int p1, .int p2] (wX A cI cZ cD u) (some (.int r)) (wX A cI cZ cD u) := by
  refine Ct.ofW (by decide +kernel) (fun p e s m below meth c hC hI => ?_)
  obtain ⟨hx, hb, hml, hown, hr, hlk, hG⟩ := hC
  have hown : s.vm.findClass RX6 = some m.cls := hown
  have hl := lv_entry ([.ref (A (64 + 4 * p0)), .int p1, .int p2] : List Value) (n := 3) (Nat.le_of_ble_eq_true rfl)
  rw [lg_entry_eq]
  generalize (lg_sl ([.ref (A (64 + 4 * p0)), .int p1, .int p2] : List Value) ++ List.replicate (3 - (lg_sl ([.ref (A (64 + 4 * p0)), .int p1, .int p2] : List Value)).length) Slot.unset).toArray = ls at hl ⊢
  have hl : lv_has ls 3 [(0, .ref (A (64 + 4 * p0))), (1, .int p1), (2, .int p2)] := hl
  unfold X6_answer at hE
  refine lv_iload_n hx hb dX6_answer_0 rfl (lv_at hl 1 rfl) ?_
  refine lv_iconst (v := (-1)) hx hb dX6_answer_1 (by decide) ?_
  refine lv_icmp_ne (tgt := 10) hx hb dX6_answer_2 (by decide) (fun c2 => ?_) (fun c2 => ?_)
  · rw [if_neg c2] at hE
    refine lv_iload_n hx hb dX6_answer_10 rfl (lv_at hl 1 rfl) ?_
    refine lv_if_lt (tgt := 49) hx hb dX6_answer_11 (by decide) (fun c11 => ?_) (fun c11 => ?_)
    · rw [if_pos c11] at hE
      refine lv_bipush (v := (-5)) hx hb dX6_answer_49 (by decide) ?_
      obtain rfl := sm1 hE
      exact xr_i hx hb hr hlk hG hI dX6_answer_51
    · rw [if_neg c11] at hE
      refine lv_iload_n hx hb dX6_answer_14 rfl (lv_at hl 1 rfl) ?_
      refine lv_aload_n hx hb dX6_answer_15 rfl (lv_at hl 0 rfl) ?_
      refine xg_get (C := RX6) (T := TX6) (M := 4) hx hb hown hG hI (by omega) (eX_T (t := p0) (by omega)) rfl inX6 3 (by decide) kf_X6_9 rfl dX6_answer_16 ?_
      refine lv_icmp_ge (tgt := 49) hx hb dX6_answer_19 (by decide) (fun c19 => ?_) (fun c19 => ?_)
      · rw [if_pos c19] at hE
        refine lv_bipush (v := (-5)) hx hb dX6_answer_49 (by decide) ?_
        obtain rfl := sm1 hE
        exact xr_i hx hb hr hlk hG hI dX6_answer_51
      · rw [if_neg c19] at hE
        refine lv_iload_n hx hb dX6_answer_22 rfl (lv_at hl 1 rfl) ?_
        refine lv_aload_n hx hb dX6_answer_23 rfl (lv_at hl 0 rfl) ?_
        refine xg_get (C := RX6) (T := TX6) (M := 4) hx hb hown hG hI (by omega) (eX_T (t := p0) (by omega)) rfl inX6 0 (by decide) kf_X6_21 rfl dX6_answer_24 ?_
        refine xg_alen 0 hx hb hG hI (by omega) (eX_T1 (t := p0) (by omega)) rfl rfl dX6_answer_27 ?_
        refine lv_icmp_ge (tgt := 49) hx hb dX6_answer_28 (by decide) (fun c28 => ?_) (fun c28 => ?_)
        · rw [if_pos c28] at hE
          refine lv_bipush (v := (-5)) hx hb dX6_answer_49 (by decide) ?_
          obtain rfl := sm1 hE
          exact xr_i hx hb hr hlk hG hI dX6_answer_51
        · rw [if_neg c28] at hE
          refine lv_iload_n hx hb dX6_answer_31 rfl (lv_at hl 1 rfl) ?_
          refine lv_aload_n hx hb dX6_answer_32 rfl (lv_at hl 0 rfl) ?_
          refine xg_get (C := RX6) (T := TX6) (M := 4) hx hb hown hG hI (by omega) (eX_T (t := p0) (by omega)) rfl inX6 1 (by decide) kf_X6_25 rfl dX6_answer_33 ?_
          refine xg_alen 0 hx hb hG hI (by omega) (eX_T2 (t := p0) (by omega)) rfl rfl dX6_answer_36 ?_
          refine lv_icmp_ge (tgt := 49) hx hb dX6_answer_37 (by decide) (fun c37 => ?_) (fun c37 => ?_)
          · rw [if_pos c37] at hE
            refine lv_bipush (v := (-5)) hx hb dX6_answer_49 (by decide) ?_
            obtain rfl := sm1 hE
            exact xr_i hx hb hr hlk hG hI dX6_answer_51
          · rw [if_neg c37] at hE
            refine lv_iload_n hx hb dX6_answer_40 rfl (lv_at hl 1 rfl) ?_
            refine lv_aload_n hx hb dX6_answer_41 rfl (lv_at hl 0 rfl) ?_
            refine xg_get (C := RX6) (T := TX6) (M := 4) hx hb hown hG hI (by omega) (eX_T (t := p0) (by omega)) rfl inX6 2 (by decide) kf_X6_28 rfl dX6_answer_42 ?_
            refine xg_alen 0 hx hb hG hI (by omega) (eX_T3 (t := p0) (by omega)) rfl rfl dX6_answer_45 ?_
            refine lv_icmp_lt (tgt := 52) hx hb dX6_answer_46 (by decide) (fun c46 => ?_) (fun c46 => ?_)
            · rw [if_pos c46] at hE
              refine lv_iload_n hx hb dX6_answer_52 rfl (lv_at hl 2 rfl) ?_
              refine lv_if_ne (tgt := 63) hx hb dX6_answer_53 (by decide) (fun c53 => ?_) (fun c53 => ?_)
              · rw [if_neg c53] at hE
                refine lv_iload_n hx hb dX6_answer_63 rfl (lv_at hl 2 rfl) ?_
                refine lv_iconst (v := 1) hx hb dX6_answer_64 (by decide) ?_
                refine lv_icmp_ne (tgt := 77) hx hb dX6_answer_65 (by decide) (fun c65 => ?_) (fun c65 => ?_)
                · rw [if_neg c65] at hE
                  refine lv_aload_n hx hb dX6_answer_77 rfl (lv_at hl 0 rfl) ?_
                  refine xg_get (C := RX6) (T := TX6) (M := 4) hx hb hown hG hI (by omega) (eX_T (t := p0) (by omega)) rfl inX6 2 (by decide) kf_X6_28 rfl dX6_answer_78 ?_
                  refine lv_iload_n hx hb dX6_answer_81 rfl (lv_at hl 1 rfl) ?_
                  obtain ⟨v1, hv, hE⟩ := bd1_some hE
                  refine xg_iald 0 hx hb hG hI (by omega) (eX_T3 (t := p0) (by omega)) rfl hv dX6_answer_82 ?_
                  obtain rfl := sm1 hE
                  exact xr_i hx hb hr hlk hG hI dX6_answer_83
                · rw [if_pos c65] at hE
                  refine lv_aload_n hx hb dX6_answer_68 rfl (lv_at hl 0 rfl) ?_
                  refine xg_get (C := RX6) (T := TX6) (M := 4) hx hb hown hG hI (by omega) (eX_T (t := p0) (by omega)) rfl inX6 1 (by decide) kf_X6_25 rfl dX6_answer_69 ?_
                  refine lv_iload_n hx hb dX6_answer_72 rfl (lv_at hl 1 rfl) ?_
                  obtain ⟨v2, hv, hE⟩ := bd1_some hE
                  refine xg_iald 0 hx hb hG hI (by omega) (eX_T2 (t := p0) (by omega)) rfl hv dX6_answer_73 ?_
                  refine lv_goto (tgt := 83) hx hb dX6_answer_74 (by decide) ?_
                  obtain rfl := sm1 hE
                  exact xr_i hx hb hr hlk hG hI dX6_answer_83
              · rw [if_pos c53] at hE
                refine lv_aload_n hx hb dX6_answer_56 rfl (lv_at hl 0 rfl) ?_
                refine xg_get (C := RX6) (T := TX6) (M := 4) hx hb hown hG hI (by omega) (eX_T (t := p0) (by omega)) rfl inX6 0 (by decide) kf_X6_21 rfl dX6_answer_57 ?_
                refine lv_iload_n hx hb dX6_answer_60 rfl (lv_at hl 1 rfl) ?_
                obtain ⟨v3, hv, hE⟩ := bd1_some hE
                refine xg_iald 0 hx hb hG hI (by omega) (eX_T1 (t := p0) (by omega)) rfl hv dX6_answer_61 ?_
                obtain rfl := sm1 hE
                exact xr_i hx hb hr hlk hG hI dX6_answer_62
            · rw [if_neg c46] at hE
              refine lv_bipush (v := (-5)) hx hb dX6_answer_49 (by decide) ?_
              obtain rfl := sm1 hE
              exact xr_i hx hb hr hlk hG hI dX6_answer_51
  · rw [if_pos c2] at hE
    refine lv_aload_n hx hb dX6_answer_5 rfl (lv_at hl 0 rfl) ?_
    refine xg_get (C := RX6) (T := TX6) (M := 4) hx hb hown hG hI (by omega) (eX_T (t := p0) (by omega)) rfl inX6 3 (by decide) kf_X6_9 rfl dX6_answer_6 ?_
    obtain rfl := sm1 hE
    exact xr_i hx hb hr hlk hG hI dX6_answer_9
