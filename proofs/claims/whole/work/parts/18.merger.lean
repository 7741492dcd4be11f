def X3_isOther (u : Mem) (p1 : Int32) (p2 : Nat) (p3 : Int32) : Option (Bool) :=
  (X4_trait (u (25 + p2)) p1 p3 : Option Int32).bind fun (r1 : Int32) => (X4_trait (u 46) p1 p3 : Option Int32).bind fun (r2 : Int32) => (if r1 = r2 then some false else some true)
set_option maxHeartbeats 4000000 in
set_option maxRecDepth 100000 in
theorem c_X3_isOther {l : Launch} {D : va_G} {A : Nat → Nat} {cI cZ cD : ClassId} {u : Mem} {p1 : Int32} {p2 : Nat} {p3 : Int32} {r : Bool} (hp2 : p2 < 25) (hE : X3_isOther u p1 p2 p3 = some (r)) : Ct l yX3_isOther cX3_isOther 4 (some .boolean) (rmOf 1 22) D (tyL cI cZ cD) [.ref (A 61), .int p1, .ref (A p2), .int p3] (wX A cI cZ cD u) (some (.int (b2i r))) (wX A cI cZ cD u) := by
  refine Ct.ofW (by decide +kernel) (fun p e s m below meth c hC hI => ?_)
  obtain ⟨hx, hb, hml, hown, hr, hlk, hG⟩ := hC
  have hown : s.vm.findClass RX3 = some m.cls := hown
  have hl := lv_entry ([.ref (A 61), .int p1, .ref (A p2), .int p3] : List Value) (n := 4) (Nat.le_of_ble_eq_true rfl)
  rw [lg_entry_eq]
  generalize (lg_sl ([.ref (A 61), .int p1, .ref (A p2), .int p3] : List Value) ++ List.replicate (4 - (lg_sl ([.ref (A 61), .int p1, .ref (A p2), .int p3] : List Value)).length) Slot.unset).toArray = ls at hl ⊢
  have hl : lv_has ls 4 [(0, .ref (A 61)), (1, .int p1), (2, .ref (A p2)), (3, .int p3)] := hl
  unfold X3_isOther at hE
  refine lv_aload_n hx hb dX3_isOther_0 rfl (lv_at hl 2 rfl) ?_
  refine lv_iload_n hx hb dX3_isOther_1 rfl (lv_at hl 1 rfl) ?_
  refine lv_iload_n hx hb dX3_isOther_2 rfl (lv_at hl 3 rfl) ?_
  obtain ⟨r1, hc, hE⟩ := bd1_some hE
  refine xc_V1 (rest := []) (Ct.toXr (j := p2) (by omega) (c_X4_trait (OKX (j := p2) (by omega)) hc)) mw_X4_trait km_X3_103 hx hb hml hown hG hI xA_of (wG_atE (by omega) (eX_O (j := p2) (by omega))) rfl rfl ⟨Nat.le_of_ble_eq_true rfl, Nat.le_of_ble_eq_true rfl⟩ rfl hl.1 rfl (Nat.le_of_ble_eq_true rfl) dX3_isOther_3 (fun H locs hI => ?_)
  refine lv_aload_n hx hb dX3_isOther_6 rfl (lv_at hl 0 rfl) ?_
  refine xg_get (C := RX3) (T := TX3) (M := 6) hx hb hown hG hI (by omega) eX_61 rfl inX3 0 (by decide) kf_X3_12 rfl dX3_isOther_7 ?_
  refine xg_getN (C := RX0) (T := TX0) (M := 5) hx hb hown hG hI (by omega) (eX_D (d := 7) (by omega)) rfl inX0 0 (by decide) kf_X3_82 rfl dX3_isOther_10 ?_
  refine lv_iload_n hx hb dX3_isOther_13 rfl (lv_at hl 1 rfl) ?_
  refine lv_iload_n hx hb dX3_isOther_14 rfl (lv_at hl 3 rfl) ?_
  obtain ⟨r2, hc, hE⟩ := bd1_some hE
  refine xc_V1 (rest := [.int r1]) (Ct.toXr (j := 21) (by omega) (c_X4_trait (OKX (j := 21) (by omega)) hc)) mw_X4_trait km_X3_103 hx hb hml hown hG hI xA_of (wG_atE (by omega) (eX_O (j := 21) (by omega))) rfl rfl ⟨Nat.le_of_ble_eq_true rfl, Nat.le_of_ble_eq_true rfl⟩ rfl hl.1 rfl (Nat.le_of_ble_eq_true rfl) dX3_isOther_15 (fun H locs hI => ?_)
  refine lv_icmp_eq (tgt := 25) hx hb dX3_isOther_18 (by decide) (fun c18 => ?_) (fun c18 => ?_)
  · rw [if_pos c18] at hE
    refine lv_iconst (v := 0) hx hb dX3_isOther_25 (by decide) ?_
    obtain rfl := sm1 hE
    exact xr_z rfl hx hb hr hlk hG hI dX3_isOther_26
  · rw [if_neg c18] at hE
    refine lv_iconst (v := 1) hx hb dX3_isOther_21 (by decide) ?_
    refine lv_goto (tgt := 26) hx hb dX3_isOther_22 (by decide) ?_
    obtain rfl := sm1 hE
    exact xr_z rfl hx hb hr hlk hG hI dX3_isOther_26
def X3_hasNewChild_L2 (p1 : Int32) (p2 : Nat) (u : Mem) : Nat → Int32 → Option (Bool)
  | 0, _ => none
  | n2 + 1, x1 =>
    (if 16 ≤ x1 then some false else (X4_isChild (u (25 + p2)) x1 p1 : Option Bool).bind fun (r2 : Bool) => (if (b2i r2) = 0 then X3_hasNewChild_L2 p1 p2 u n2 (x1 + 1) else (X4_isChild (u 46) x1 p1 : Option Bool).bind fun (r3 : Bool) => (if (b2i r3) = 0 then some true else X3_hasNewChild_L2 p1 p2 u n2 (x1 + 1))))
def X3_hasNewChild (u : Mem) (p1 : Int32) (p2 : Nat) : Option (Bool) :=
  X3_hasNewChild_L2 p1 p2 u fu 1
set_option maxHeartbeats 4000000 in
set_option maxRecDepth 100000 in
theorem c_X3_hasNewChild {l : Launch} {D : va_G} {A : Nat → Nat} {cI cZ cD : ClassId} {u : Mem} {p1 : Int32} {p2 : Nat} {r : Bool} (hp2 : p2 < 25) (hE : X3_hasNewChild u p1 p2 = some (r)) : Ct l yX3_hasNewChild cX3_hasNewChild 4 (some .boolean) (rmOf 1 22) D (tyL cI cZ cD) [.ref (A 61), .int p1, .ref (A p2)] (wX A cI cZ cD u) (some (.int (b2i r))) (wX A cI cZ cD u) := by
  refine Ct.ofW (by decide +kernel) (fun p e s m below meth c hC hI => ?_)
  obtain ⟨hx, hb, hml, hown, hr, hlk, hG⟩ := hC
  have hown : s.vm.findClass RX3 = some m.cls := hown
  have hl := lv_entry ([.ref (A 61), .int p1, .ref (A p2)] : List Value) (n := 4) (Nat.le_of_ble_eq_true rfl)
  rw [lg_entry_eq]
  generalize (lg_sl ([.ref (A 61), .int p1, .ref (A p2)] : List Value) ++ List.replicate (4 - (lg_sl ([.ref (A 61), .int p1, .ref (A p2)] : List Value)).length) Slot.unset).toArray = ls at hl ⊢
  have hl : lv_has ls 4 [(0, .ref (A 61)), (1, .int p1), (2, .ref (A p2))] := hl
  unfold X3_hasNewChild at hE
  refine lv_iconst (v := 1) hx hb dX3_hasNewChild_0 (by decide) ?_
  refine lv_istore_n (lv' := [(3, .int 1), (0, .ref (A 61)), (1, .int p1), (2, .ref (A p2))]) hx hb dX3_hasNewChild_1 rfl hl (by decide) rfl (fun ls hl => ?_)
  have hL2 : ∀ (n2 : Nat) (x1 : Int32) (H : Heap) (locs : List Loc) (ls : Array Slot), X3_hasNewChild_L2 p1 p2 u n2 x1 = some r → xI D (va_A (wX A cI cZ cD u) s.heap.size) s.heap (wX A cI cZ cD u) H locs → lv_has ls 4 [(0, .ref (A 61)), (1, .int p1), (2, .ref (A p2)), (3, .int x1)] → W p l e (rmOf 1 22) s m ([.ref (A 61), .int p1, .ref (A p2)] : List Value).toArray below meth c H locs 0 0 (xQ D (tyL cI cZ cD) below ([.ref (A 61), .int p1, .ref (A p2)] : List Value).toArray s (wX A cI cZ cD u) (some (.int (b2i r))) (wX A cI cZ cD u)) (F0 m 2 ls []) := by
    intro n2
    induction n2 with
    | zero =>
      intro x1 H locs ls hE
      exact absurd hE (by simp [X3_hasNewChild_L2])
    | succ n2 ih2 =>
      intro x1 H locs ls hE hI hl
      rw [X3_hasNewChild_L2] at hE
      refine lv_iload_n hx hb dX3_hasNewChild_2 rfl (lv_at hl 3 rfl) ?_
      refine lv_bipush (v := 16) hx hb dX3_hasNewChild_3 (by decide) ?_
      refine lv_icmp_ge (tgt := 40) hx hb dX3_hasNewChild_5 (by decide) (fun c5 => ?_) (fun c5 => ?_)
      · rw [if_pos c5] at hE
        refine lv_iconst (v := 0) hx hb dX3_hasNewChild_40 (by decide) ?_
        obtain rfl := sm1 hE
        exact xr_z rfl hx hb hr hlk hG hI dX3_hasNewChild_41
      · rw [if_neg c5] at hE
        refine lv_aload_n hx hb dX3_hasNewChild_8 rfl (lv_at hl 2 rfl) ?_
        refine lv_iload_n hx hb dX3_hasNewChild_9 rfl (lv_at hl 3 rfl) ?_
        refine lv_iload_n hx hb dX3_hasNewChild_10 rfl (lv_at hl 1 rfl) ?_
        obtain ⟨r2, hc, hE⟩ := bd1_some hE
        refine xc_V1 (rest := []) (Ct.toXr (j := p2) (by omega) (c_X4_isChild (OKX (j := p2) (by omega)) hc)) mw_X4_isChild km_X3_107 hx hb hml hown hG hI xA_of (wG_atE (by omega) (eX_O (j := p2) (by omega))) rfl rfl ⟨Nat.le_of_ble_eq_true rfl, Nat.le_of_ble_eq_true rfl⟩ rfl hl.1 rfl (Nat.le_of_ble_eq_true rfl) dX3_hasNewChild_11 (fun H locs hI => ?_)
        refine lv_if_eq (tgt := 34) hx hb dX3_hasNewChild_14 (by decide) (fun c14 => ?_) (fun c14 => ?_)
        · rw [if_pos c14] at hE
          refine lv_iinc (v := x1 + 1) (lv' := [(3, .int (x1 + 1)), (0, .ref (A 61)), (1, .int p1), (2, .ref (A p2))]) hx hb dX3_hasNewChild_34 hl (k := 3) rfl rfl (by decide) rfl (fun ls hl => ?_)
          refine lv_goto (tgt := 2) hx hb dX3_hasNewChild_37 (by decide) ?_
          exact ih2 _ _ _ _ hE hI (lv_sub hl [1, 2, 3, 0] rfl)
        · rw [if_neg c14] at hE
          refine lv_aload_n hx hb dX3_hasNewChild_17 rfl (lv_at hl 0 rfl) ?_
          refine xg_get (C := RX3) (T := TX3) (M := 6) hx hb hown hG hI (by omega) eX_61 rfl inX3 0 (by decide) kf_X3_12 rfl dX3_hasNewChild_18 ?_
          refine xg_getN (C := RX0) (T := TX0) (M := 5) hx hb hown hG hI (by omega) (eX_D (d := 7) (by omega)) rfl inX0 0 (by decide) kf_X3_82 rfl dX3_hasNewChild_21 ?_
          refine lv_iload_n hx hb dX3_hasNewChild_24 rfl (lv_at hl 3 rfl) ?_
          refine lv_iload_n hx hb dX3_hasNewChild_25 rfl (lv_at hl 1 rfl) ?_
          obtain ⟨r3, hc, hE⟩ := bd1_some hE
          refine xc_V1 (rest := []) (Ct.toXr (j := 21) (by omega) (c_X4_isChild (OKX (j := 21) (by omega)) hc)) mw_X4_isChild km_X3_107 hx hb hml hown hG hI xA_of (wG_atE (by omega) (eX_O (j := 21) (by omega))) rfl rfl ⟨Nat.le_of_ble_eq_true rfl, Nat.le_of_ble_eq_true rfl⟩ rfl hl.1 rfl (Nat.le_of_ble_eq_true rfl) dX3_hasNewChild_26 (fun H locs hI => ?_)
          refine lv_if_ne (tgt := 34) hx hb dX3_hasNewChild_29 (by decide) (fun c29 => ?_) (fun c29 => ?_)
          · rw [if_neg c29] at hE
            refine lv_iinc (v := x1 + 1) (lv' := [(3, .int (x1 + 1)), (0, .ref (A 61)), (1, .int p1), (2, .ref (A p2))]) hx hb dX3_hasNewChild_34 hl (k := 3) rfl rfl (by decide) rfl (fun ls hl => ?_)
            refine lv_goto (tgt := 2) hx hb dX3_hasNewChild_37 (by decide) ?_
            exact ih2 _ _ _ _ hE hI (lv_sub hl [1, 2, 3, 0] rfl)
          · rw [if_pos c29] at hE
            refine lv_iconst (v := 1) hx hb dX3_hasNewChild_32 (by decide) ?_
            obtain rfl := sm1 hE
            exact xr_z rfl hx hb hr hlk hG hI dX3_hasNewChild_33
  exact hL2 _ _ _ _ _ hE hI (lv_sub hl [1, 2, 3, 0] rfl)
def X3_isChanged (u : Mem) (p1 : Int32) (p2 : Nat) : Option (Bool) :=
  (X4_holds (u 46) p1 : Option Bool).bind fun (r1 : Bool) => (if (b2i r1) = 0 then some false else (X4_holds (u (25 + p2)) p1 : Option Bool).bind fun (r2 : Bool) => (if (b2i r2) = 0 then some false else (X3_isOther u p1 p2 2 : Option Bool).bind fun (r3 : Bool) => (if (b2i r3) = 0 then (X3_isOther u p1 p2 3 : Option Bool).bind fun (r4 : Bool) => (if (b2i r4) = 0 then (X3_isOther u p1 p2 0 : Option Bool).bind fun (r5 : Bool) => (if (b2i r5) = 0 then (X3_hasNewChild u p1 p2 : Option Bool).bind fun (r6 : Bool) => (if (b2i r6) = 0 then some false else some true) else some true) else some true) else some true)))
set_option maxHeartbeats 4000000 in
set_option maxRecDepth 100000 in
theorem c_X3_isChanged {l : Launch} {D : va_G} {A : Nat → Nat} {cI cZ cD : ClassId} {u : Mem} {p1 : Int32} {p2 : Nat} {r : Bool} (hp2 : p2 < 25) (hE : X3_isChanged u p1 p2 = some (r)) : Ct l yX3_isChanged cX3_isChanged 3 (some .boolean) (rmOf 2 45) D (tyL cI cZ cD) [.ref (A 61), .int p1, .ref (A p2)] (wX A cI cZ cD u) (some (.int (b2i r))) (wX A cI cZ cD u) := by
  refine Ct.ofW (by decide +kernel) (fun p e s m below meth c hC hI => ?_)
  obtain ⟨hx, hb, hml, hown, hr, hlk, hG⟩ := hC
  have hown : s.vm.findClass RX3 = some m.cls := hown
  have hl := lv_entry ([.ref (A 61), .int p1, .ref (A p2)] : List Value) (n := 3) (Nat.le_of_ble_eq_true rfl)
  rw [lg_entry_eq]
  generalize (lg_sl ([.ref (A 61), .int p1, .ref (A p2)] : List Value) ++ List.replicate (3 - (lg_sl ([.ref (A 61), .int p1, .ref (A p2)] : List Value)).length) Slot.unset).toArray = ls at hl ⊢
  have hl : lv_has ls 3 [(0, .ref (A 61)), (1, .int p1), (2, .ref (A p2))] := hl
  unfold X3_isChanged at hE
  refine lv_aload_n hx hb dX3_isChanged_0 rfl (lv_at hl 0 rfl) ?_
  refine xg_get (C := RX3) (T := TX3) (M := 6) hx hb hown hG hI (by omega) eX_61 rfl inX3 0 (by decide) kf_X3_12 rfl dX3_isChanged_1 ?_
  refine xg_getN (C := RX0) (T := TX0) (M := 5) hx hb hown hG hI (by omega) (eX_D (d := 7) (by omega)) rfl inX0 0 (by decide) kf_X3_82 rfl dX3_isChanged_4 ?_
  refine lv_iload_n hx hb dX3_isChanged_7 rfl (lv_at hl 1 rfl) ?_
  obtain ⟨r1, hc, hE⟩ := bd1_some hE
  refine xc_V1 (rest := []) (Ct.toXr (j := 21) (by omega) (c_X4_holds (OKX (j := 21) (by omega)) hc)) mw_X4_holds km_X3_75 hx hb hml hown hG hI xA_of (wG_atE (by omega) (eX_O (j := 21) (by omega))) rfl rfl ⟨Nat.le_of_ble_eq_true rfl, Nat.le_of_ble_eq_true rfl⟩ rfl hl.1 rfl (Nat.le_of_ble_eq_true rfl) dX3_isChanged_8 (fun H locs hI => ?_)
  refine lv_if_eq (tgt := 22) hx hb dX3_isChanged_11 (by decide) (fun c11 => ?_) (fun c11 => ?_)
  · rw [if_pos c11] at hE
    refine lv_iconst (v := 0) hx hb dX3_isChanged_22 (by decide) ?_
    obtain rfl := sm1 hE
    exact xr_z rfl hx hb hr hlk hG hI dX3_isChanged_23
  · rw [if_neg c11] at hE
    refine lv_aload_n hx hb dX3_isChanged_14 rfl (lv_at hl 2 rfl) ?_
    refine lv_iload_n hx hb dX3_isChanged_15 rfl (lv_at hl 1 rfl) ?_
    obtain ⟨r2, hc, hE⟩ := bd1_some hE
    refine xc_V1 (rest := []) (Ct.toXr (j := p2) (by omega) (c_X4_holds (OKX (j := p2) (by omega)) hc)) mw_X4_holds km_X3_75 hx hb hml hown hG hI xA_of (wG_atE (by omega) (eX_O (j := p2) (by omega))) rfl rfl ⟨Nat.le_of_ble_eq_true rfl, Nat.le_of_ble_eq_true rfl⟩ rfl hl.1 rfl (Nat.le_of_ble_eq_true rfl) dX3_isChanged_16 (fun H locs hI => ?_)
    refine lv_if_ne (tgt := 24) hx hb dX3_isChanged_19 (by decide) (fun c19 => ?_) (fun c19 => ?_)
    · rw [if_neg c19] at hE
      refine lv_aload_n hx hb dX3_isChanged_24 rfl (lv_at hl 0 rfl) ?_
      refine lv_iload_n hx hb dX3_isChanged_25 rfl (lv_at hl 1 rfl) ?_
      refine lv_aload_n hx hb dX3_isChanged_26 rfl (lv_at hl 2 rfl) ?_
      refine lv_iconst (v := 2) hx hb dX3_isChanged_27 (by decide) ?_
      obtain ⟨r3, hc, hE⟩ := bd1_some hE
      refine xc_V1 (rest := []) (c_X3_isOther (by omega) hc) mw_X3_isOther km_X3_96 hx hb hml hown hG hI xA_of (wG_atE (by omega) eX_61) rfl rfl ⟨Nat.le_of_ble_eq_true rfl, Nat.le_of_ble_eq_true rfl⟩ rfl hl.1 rfl (Nat.le_of_ble_eq_true rfl) dX3_isChanged_28 (fun H locs hI => ?_)
      refine lv_if_ne (tgt := 63) hx hb dX3_isChanged_31 (by decide) (fun c31 => ?_) (fun c31 => ?_)
      · rw [if_neg c31] at hE
        refine lv_iconst (v := 1) hx hb dX3_isChanged_63 (by decide) ?_
        refine lv_goto (tgt := 68) hx hb dX3_isChanged_64 (by decide) ?_
        obtain rfl := sm1 hE
        exact xr_z rfl hx hb hr hlk hG hI dX3_isChanged_68
      · rw [if_pos c31] at hE
        refine lv_aload_n hx hb dX3_isChanged_34 rfl (lv_at hl 0 rfl) ?_
        refine lv_iload_n hx hb dX3_isChanged_35 rfl (lv_at hl 1 rfl) ?_
        refine lv_aload_n hx hb dX3_isChanged_36 rfl (lv_at hl 2 rfl) ?_
        refine lv_iconst (v := 3) hx hb dX3_isChanged_37 (by decide) ?_
        obtain ⟨r4, hc, hE⟩ := bd1_some hE
        refine xc_V1 (rest := []) (c_X3_isOther (by omega) hc) mw_X3_isOther km_X3_96 hx hb hml hown hG hI xA_of (wG_atE (by omega) eX_61) rfl rfl ⟨Nat.le_of_ble_eq_true rfl, Nat.le_of_ble_eq_true rfl⟩ rfl hl.1 rfl (Nat.le_of_ble_eq_true rfl) dX3_isChanged_38 (fun H locs hI => ?_)
        refine lv_if_ne (tgt := 63) hx hb dX3_isChanged_41 (by decide) (fun c41 => ?_) (fun c41 => ?_)
        · rw [if_neg c41] at hE
          refine lv_iconst (v := 1) hx hb dX3_isChanged_63 (by decide) ?_
          refine lv_goto (tgt := 68) hx hb dX3_isChanged_64 (by decide) ?_
          obtain rfl := sm1 hE
          exact xr_z rfl hx hb hr hlk hG hI dX3_isChanged_68
        · rw [if_pos c41] at hE
          refine lv_aload_n hx hb dX3_isChanged_44 rfl (lv_at hl 0 rfl) ?_
          refine lv_iload_n hx hb dX3_isChanged_45 rfl (lv_at hl 1 rfl) ?_
          refine lv_aload_n hx hb dX3_isChanged_46 rfl (lv_at hl 2 rfl) ?_
          refine lv_iconst (v := 0) hx hb dX3_isChanged_47 (by decide) ?_
          obtain ⟨r5, hc, hE⟩ := bd1_some hE
          refine xc_V1 (rest := []) (c_X3_isOther (by omega) hc) mw_X3_isOther km_X3_96 hx hb hml hown hG hI xA_of (wG_atE (by omega) eX_61) rfl rfl ⟨Nat.le_of_ble_eq_true rfl, Nat.le_of_ble_eq_true rfl⟩ rfl hl.1 rfl (Nat.le_of_ble_eq_true rfl) dX3_isChanged_48 (fun H locs hI => ?_)
          refine lv_if_ne (tgt := 63) hx hb dX3_isChanged_51 (by decide) (fun c51 => ?_) (fun c51 => ?_)
          · rw [if_neg c51] at hE
            refine lv_iconst (v := 1) hx hb dX3_isChanged_63 (by decide) ?_
            refine lv_goto (tgt := 68) hx hb dX3_isChanged_64 (by decide) ?_
            obtain rfl := sm1 hE
            exact xr_z rfl hx hb hr hlk hG hI dX3_isChanged_68
          · rw [if_pos c51] at hE
            refine lv_aload_n hx hb dX3_isChanged_54 rfl (lv_at hl 0 rfl) ?_
            refine lv_iload_n hx hb dX3_isChanged_55 rfl (lv_at hl 1 rfl) ?_
            refine lv_aload_n hx hb dX3_isChanged_56 rfl (lv_at hl 2 rfl) ?_
            obtain ⟨r6, hc, hE⟩ := bd1_some hE
            refine xc_V1 (rest := []) (c_X3_hasNewChild (by omega) hc) mw_X3_hasNewChild km_X3_100 hx hb hml hown hG hI xA_of (wG_atE (by omega) eX_61) rfl rfl ⟨Nat.le_of_ble_eq_true rfl, Nat.le_of_ble_eq_true rfl⟩ rfl hl.1 rfl (Nat.le_of_ble_eq_true rfl) dX3_isChanged_57 (fun H locs hI => ?_)
            refine lv_if_eq (tgt := 67) hx hb dX3_isChanged_60 (by decide) (fun c60 => ?_) (fun c60 => ?_)
            · rw [if_pos c60] at hE
              refine lv_iconst (v := 0) hx hb dX3_isChanged_67 (by decide) ?_
              obtain rfl := sm1 hE
              exact xr_z rfl hx hb hr hlk hG hI dX3_isChanged_68
            · rw [if_neg c60] at hE
              refine lv_iconst (v := 1) hx hb dX3_isChanged_63 (by decide) ?_
              refine lv_goto (tgt := 68) hx hb dX3_isChanged_64 (by decide) ?_
              obtain rfl := sm1 hE
              exact xr_z rfl hx hb hr hlk hG hI dX3_isChanged_68
    · rw [if_pos c19] at hE
      refine lv_iconst (v := 0) hx hb dX3_isChanged_22 (by decide) ?_
      obtain rfl := sm1 hE
      exact xr_z rfl hx hb hr hlk hG hI dX3_isChanged_23
def X3_chooseSections_L2 : Nat → Int32 → Mem → Option (Mem)
  | 0, _, _ => none
  | n2 + 1, x1, mu2 =>
    (if 16 ≤ x1 then some mu2 else (X4_holds (mu2 47) x1 : Option Bool).bind fun (r5 : Bool) => (X4_holds (mu2 48) x1 : Option Bool).bind fun (r6 : Bool) => (X4_holds (mu2 46) x1 : Option Bool).bind fun (r7 : Bool) => (if (b2i r7) = 0 then (if (b2i r5) = 0 then (if (b2i r6) = 0 then X3_chooseSections_L2 n2 (x1 + 1) mu2 else (stO mu2 49 (X4_include (mu2 49) x1) : Option Mem).bind fun (mu22 : Mem) => X3_chooseSections_L2 n2 (x1 + 1) mu22) else (stO mu2 49 (X4_include (mu2 49) x1) : Option Mem).bind fun (mu21 : Mem) => X3_chooseSections_L2 n2 (x1 + 1) mu21) else (if (b2i r5) = 0 then (X3_isChanged mu2 x1 22 : Option Bool).bind fun (r8 : Bool) => (if (b2i r8) = 0 then (X3_isChanged mu2 x1 23 : Option Bool).bind fun (r11 : Bool) => (if (b2i r11) = 0 then X3_chooseSections_L2 n2 (x1 + 1) mu2 else (stO mu2 49 (X4_include (mu2 49) x1) : Option Mem).bind fun (mu12 : Mem) => (X6_tell mu12 0 3 x1 x1 : Option Mem).bind fun (mu13 : Mem) => X3_chooseSections_L2 n2 (x1 + 1) mu13) else (stO mu2 49 (X4_include (mu2 49) x1) : Option Mem).bind fun (mu9 : Mem) => (X6_tell mu9 0 3 x1 x1 : Option Mem).bind fun (mu10 : Mem) => X3_chooseSections_L2 n2 (x1 + 1) mu10) else (if (b2i r6) = 0 then (X3_isChanged mu2 x1 22 : Option Bool).bind fun (r14 : Bool) => (if (b2i r14) = 0 then (X3_isChanged mu2 x1 23 : Option Bool).bind fun (r17 : Bool) => (if (b2i r17) = 0 then X3_chooseSections_L2 n2 (x1 + 1) mu2 else (stO mu2 49 (X4_include (mu2 49) x1) : Option Mem).bind fun (mu18 : Mem) => (X6_tell mu18 0 3 x1 x1 : Option Mem).bind fun (mu19 : Mem) => X3_chooseSections_L2 n2 (x1 + 1) mu19) else (stO mu2 49 (X4_include (mu2 49) x1) : Option Mem).bind fun (mu15 : Mem) => (X6_tell mu15 0 3 x1 x1 : Option Mem).bind fun (mu16 : Mem) => X3_chooseSections_L2 n2 (x1 + 1) mu16) else (stO mu2 49 (X4_include (mu2 49) x1) : Option Mem).bind fun (mu20 : Mem) => X3_chooseSections_L2 n2 (x1 + 1) mu20))))
def X3_chooseSections (u : Mem) : Option (Mem) :=
  (X3_chooseSections_L2 fu 1 u : Option Mem).bind fun (mu3 : Mem) => some mu3
set_option maxHeartbeats 4000000 in
set_option maxRecDepth 100000 in
theorem c_X3_chooseSections {l : Launch} {D : va_G} {A : Nat → Nat} {cI cZ cD : ClassId} {u u1 : Mem}  (hE : X3_chooseSections u = some (u1)) : Ct l yX3_chooseSections cX3_chooseSections 4 none (rmOf 3 67) D (tyL cI cZ cD) [.ref (A 61)] (wX A cI cZ cD u) none (wX A cI cZ cD u1) := by
  refine Ct.ofW (by decide +kernel) (fun p e s m below meth c hC hI => ?_)
  obtain ⟨hx, hb, hml, hown, hr, hlk, hG⟩ := hC
  have hown : s.vm.findClass RX3 = some m.cls := hown
  have hl := lv_entry ([.ref (A 61)] : List Value) (n := 4) (Nat.le_of_ble_eq_true rfl)
  rw [lg_entry_eq]
  generalize (lg_sl ([.ref (A 61)] : List Value) ++ List.replicate (4 - (lg_sl ([.ref (A 61)] : List Value)).length) Slot.unset).toArray = ls at hl ⊢
  have hl : lv_has ls 4 [(0, .ref (A 61))] := hl
  unfold X3_chooseSections at hE
  refine lv_iconst (v := 1) hx hb dX3_chooseSections_0 (by decide) ?_
  refine lv_istore_n (lv' := [(1, .int 1), (0, .ref (A 61))]) hx hb dX3_chooseSections_1 rfl hl (by decide) rfl (fun ls hl => ?_)
  obtain ⟨mu3, hZ, hE⟩ := bd1_some hE
  have hX2_3 : ∀ (H : Heap) (locs : List Loc) (ls : Array Slot), xI D (va_A (wX A cI cZ cD u) s.heap.size) s.heap (wX A cI cZ cD mu3) H locs → lv_has ls 4 [] → W p l e (rmOf 3 67) s m ([.ref (A 61)] : List Value).toArray below meth c H locs 0 0 (xQ D (tyL cI cZ cD) below ([.ref (A 61)] : List Value).toArray s (wX A cI cZ cD u) none (wX A cI cZ cD u1)) (F0 m 138 ls []) := by
    intro H locs ls hI hl
    clear hZ
    obtain rfl := sm1 hE
    exact xr_v hx hb hr hlk hG hI dX3_chooseSections_138
  replace hE := hZ
  clear hZ
  have hL2 : ∀ (n2 : Nat) (x1 : Int32) (mu2 : Mem) (H : Heap) (locs : List Loc) (ls : Array Slot), X3_chooseSections_L2 n2 x1 mu2 = some mu3 → xI D (va_A (wX A cI cZ cD u) s.heap.size) s.heap (wX A cI cZ cD mu2) H locs → lv_has ls 4 [(0, .ref (A 61)), (1, .int x1)] → W p l e (rmOf 3 67) s m ([.ref (A 61)] : List Value).toArray below meth c H locs 0 0 (xQ D (tyL cI cZ cD) below ([.ref (A 61)] : List Value).toArray s (wX A cI cZ cD u) none (wX A cI cZ cD u1)) (F0 m 2 ls []) := by
    intro n2
    induction n2 with
    | zero =>
      intro x1 mu2 H locs ls hE
      exact absurd hE (by simp [X3_chooseSections_L2])
    | succ n2 ih2 =>
      intro x1 mu2 H locs ls hE hI hl
      rw [X3_chooseSections_L2] at hE
      refine lv_iload_n hx hb dX3_chooseSections_2 rfl (lv_at hl 1 rfl) ?_
      refine lv_bipush (v := 16) hx hb dX3_chooseSections_3 (by decide) ?_
      refine lv_icmp_ge (tgt := 138) hx hb dX3_chooseSections_5 (by decide) (fun c5 => ?_) (fun c5 => ?_)
      · rw [if_pos c5] at hE
        obtain rfl := sm1 hE
        exact hX2_3 _ _ _ hI (lv_sub hl [] rfl)
      · rw [if_neg c5] at hE
        refine lv_aload_n hx hb dX3_chooseSections_8 rfl (lv_at hl 0 rfl) ?_
        refine xg_get (C := RX3) (T := TX3) (M := 6) hx hb hown hG hI (by omega) eX_61 rfl inX3 0 (by decide) kf_X3_12 rfl dX3_chooseSections_9 ?_
        refine xg_getN (C := RX0) (T := TX0) (M := 5) hx hb hown hG hI (by omega) (eX_D (d := 7) (by omega)) rfl inX0 1 (by decide) kf_X3_72 rfl dX3_chooseSections_12 ?_
        refine lv_iload_n hx hb dX3_chooseSections_15 rfl (lv_at hl 1 rfl) ?_
        obtain ⟨r5, hc, hE⟩ := bd1_some hE
        refine xc_V1 (rest := []) (Ct.toXr (j := 22) (by omega) (c_X4_holds (OKX (j := 22) (by omega)) hc)) mw_X4_holds km_X3_75 hx hb hml hown hG hI xA_of (wG_atE (by omega) (eX_O (j := 22) (by omega))) rfl rfl ⟨Nat.le_of_ble_eq_true rfl, Nat.le_of_ble_eq_true rfl⟩ rfl hl.1 rfl (Nat.le_of_ble_eq_true rfl) dX3_chooseSections_16 (fun H locs hI => ?_)
        refine lv_istore_n (lv' := [(2, .int (b2i r5)), (0, .ref (A 61)), (1, .int x1)]) hx hb dX3_chooseSections_19 rfl hl (by decide) rfl (fun ls hl => ?_)
        refine lv_aload_n hx hb dX3_chooseSections_20 rfl (lv_at hl 1 rfl) ?_
        refine xg_get (C := RX3) (T := TX3) (M := 6) hx hb hown hG hI (by omega) eX_61 rfl inX3 0 (by decide) kf_X3_12 rfl dX3_chooseSections_21 ?_
        refine xg_getN (C := RX0) (T := TX0) (M := 5) hx hb hown hG hI (by omega) (eX_D (d := 7) (by omega)) rfl inX0 2 (by decide) kf_X3_79 rfl dX3_chooseSections_24 ?_
        refine lv_iload_n hx hb dX3_chooseSections_27 rfl (lv_at hl 2 rfl) ?_
        obtain ⟨r6, hc, hE⟩ := bd1_some hE
        refine xc_V1 (rest := []) (Ct.toXr (j := 23) (by omega) (c_X4_holds (OKX (j := 23) (by omega)) hc)) mw_X4_holds km_X3_75 hx hb hml hown hG hI xA_of (wG_atE (by omega) (eX_O (j := 23) (by omega))) rfl rfl ⟨Nat.le_of_ble_eq_true rfl, Nat.le_of_ble_eq_true rfl⟩ rfl hl.1 rfl (Nat.le_of_ble_eq_true rfl) dX3_chooseSections_28 (fun H locs hI => ?_)
        refine lv_istore_n (lv' := [(3, .int (b2i r6)), (2, .int (b2i r5)), (0, .ref (A 61)), (1, .int x1)]) hx hb dX3_chooseSections_31 rfl hl (by decide) rfl (fun ls hl => ?_)
        refine lv_aload_n hx hb dX3_chooseSections_32 rfl (lv_at hl 2 rfl) ?_
        refine xg_get (C := RX3) (T := TX3) (M := 6) hx hb hown hG hI (by omega) eX_61 rfl inX3 0 (by decide) kf_X3_12 rfl dX3_chooseSections_33 ?_
        refine xg_getN (C := RX0) (T := TX0) (M := 5) hx hb hown hG hI (by omega) (eX_D (d := 7) (by omega)) rfl inX0 0 (by decide) kf_X3_82 rfl dX3_chooseSections_36 ?_
        refine lv_iload_n hx hb dX3_chooseSections_39 rfl (lv_at hl 3 rfl) ?_
        obtain ⟨r7, hc, hE⟩ := bd1_some hE
        refine xc_V1 (rest := []) (Ct.toXr (j := 21) (by omega) (c_X4_holds (OKX (j := 21) (by omega)) hc)) mw_X4_holds km_X3_75 hx hb hml hown hG hI xA_of (wG_atE (by omega) (eX_O (j := 21) (by omega))) rfl rfl ⟨Nat.le_of_ble_eq_true rfl, Nat.le_of_ble_eq_true rfl⟩ rfl hl.1 rfl (Nat.le_of_ble_eq_true rfl) dX3_chooseSections_40 (fun H locs hI => ?_)
        refine lv_if_ne (tgt := 65) hx hb dX3_chooseSections_43 (by decide) (fun c43 => ?_) (fun c43 => ?_)
        · rw [if_neg c43] at hE
          refine lv_iload_n hx hb dX3_chooseSections_65 rfl (lv_at hl 1 rfl) ?_
          refine lv_if_eq (tgt := 84) hx hb dX3_chooseSections_66 (by decide) (fun c66 => ?_) (fun c66 => ?_)
          · rw [if_pos c66] at hE
            refine lv_aload_n hx hb dX3_chooseSections_84 rfl (lv_at hl 2 rfl) ?_
            refine lv_iload_n hx hb dX3_chooseSections_85 rfl (lv_at hl 3 rfl) ?_
            refine lv_aload_n hx hb dX3_chooseSections_86 rfl (lv_at hl 2 rfl) ?_
            refine xg_get (C := RX3) (T := TX3) (M := 6) hx hb hown hG hI (by omega) eX_61 rfl inX3 0 (by decide) kf_X3_12 rfl dX3_chooseSections_87 ?_
            refine xg_getN (C := RX0) (T := TX0) (M := 5) hx hb hown hG hI (by omega) (eX_D (d := 7) (by omega)) rfl inX0 1 (by decide) kf_X3_72 rfl dX3_chooseSections_90 ?_
            obtain ⟨r8, hc, hE⟩ := bd1_some hE
            refine xc_V1 (rest := []) (c_X3_isChanged (by omega) hc) mw_X3_isChanged km_X3_88 hx hb hml hown hG hI xA_of (wG_atE (by omega) eX_61) rfl rfl ⟨Nat.le_of_ble_eq_true rfl, Nat.le_of_ble_eq_true rfl⟩ rfl hl.1 rfl (Nat.le_of_ble_eq_true rfl) dX3_chooseSections_93 (fun H locs hI => ?_)
            refine lv_if_ne (tgt := 114) hx hb dX3_chooseSections_96 (by decide) (fun c96 => ?_) (fun c96 => ?_)
            · rw [if_neg c96] at hE
              refine lv_aload_n hx hb dX3_chooseSections_114 rfl (lv_at hl 2 rfl) ?_
              refine xg_get (C := RX3) (T := TX3) (M := 6) hx hb hown hG hI (by omega) eX_61 rfl inX3 1 (by decide) kf_X3_21 rfl dX3_chooseSections_115 ?_
              refine lv_iload_n hx hb dX3_chooseSections_118 rfl (lv_at hl 3 rfl) ?_
              obtain ⟨mu9, hc, hE⟩ := bd1_some hE
              obtain ⟨ff, hf, hu⟩ := stO_some hc
              refine xc_V0 (rest := []) (Ct.toXw (j := 24) (by omega) hu (c_X4_include (OKX (j := 24) (by omega)) hf)) mw_X4_include km_X3_85 hx hb hml hown hG hI xA_of (wG_atE (by omega) (eX_O (j := 24) (by omega))) rfl rfl ⟨Nat.le_of_ble_eq_true rfl, Nat.le_of_ble_eq_true rfl⟩ rfl hl.1 rfl (Nat.le_of_ble_eq_true rfl) dX3_chooseSections_119 (fun H locs hI => ?_)
              refine lv_aload_n hx hb dX3_chooseSections_122 rfl (lv_at hl 2 rfl) ?_
              refine xg_get (C := RX3) (T := TX3) (M := 6) hx hb hown hG hI (by omega) eX_61 rfl inX3 2 (by decide) kf_X3_30 rfl dX3_chooseSections_123 ?_
              refine lv_iconst (v := 3) hx hb dX3_chooseSections_126 (by decide) ?_
              refine lv_iload_n hx hb dX3_chooseSections_127 rfl (lv_at hl 3 rfl) ?_
              refine lv_iload_n hx hb dX3_chooseSections_128 rfl (lv_at hl 3 rfl) ?_
              obtain ⟨mu10, hc, hE⟩ := bd1_some hE
              refine xc_V0 (rest := []) (c_X6_tell (by omega) hc) mw_X6_tell km_X3_92 hx hb hml hown hG hI xA_of (wG_atE (by omega) (eX_T (t := 0) (by omega))) rfl rfl ⟨Nat.le_of_ble_eq_true rfl, Nat.le_of_ble_eq_true rfl⟩ rfl hl.1 rfl (Nat.le_of_ble_eq_true rfl) dX3_chooseSections_129 (fun H locs hI => ?_)
              refine lv_iinc (v := x1 + 1) (lv' := [(1, .int (x1 + 1)), (3, .int (b2i r6)), (2, .int (b2i r5)), (0, .ref (A 61))]) hx hb dX3_chooseSections_132 hl (k := 3) rfl rfl (by decide) rfl (fun ls hl => ?_)
              refine lv_goto (tgt := 2) hx hb dX3_chooseSections_135 (by decide) ?_
              exact ih2 _ _ _ _ _ hE hI (lv_sub hl [3, 0] rfl)
            · rw [if_pos c96] at hE
              refine lv_aload_n hx hb dX3_chooseSections_99 rfl (lv_at hl 2 rfl) ?_
              refine lv_iload_n hx hb dX3_chooseSections_100 rfl (lv_at hl 3 rfl) ?_
              refine lv_aload_n hx hb dX3_chooseSections_101 rfl (lv_at hl 2 rfl) ?_
              refine xg_get (C := RX3) (T := TX3) (M := 6) hx hb hown hG hI (by omega) eX_61 rfl inX3 0 (by decide) kf_X3_12 rfl dX3_chooseSections_102 ?_
              refine xg_getN (C := RX0) (T := TX0) (M := 5) hx hb hown hG hI (by omega) (eX_D (d := 7) (by omega)) rfl inX0 2 (by decide) kf_X3_79 rfl dX3_chooseSections_105 ?_
              obtain ⟨r11, hc, hE⟩ := bd1_some hE
              refine xc_V1 (rest := []) (c_X3_isChanged (by omega) hc) mw_X3_isChanged km_X3_88 hx hb hml hown hG hI xA_of (wG_atE (by omega) eX_61) rfl rfl ⟨Nat.le_of_ble_eq_true rfl, Nat.le_of_ble_eq_true rfl⟩ rfl hl.1 rfl (Nat.le_of_ble_eq_true rfl) dX3_chooseSections_108 (fun H locs hI => ?_)
              refine lv_if_eq (tgt := 132) hx hb dX3_chooseSections_111 (by decide) (fun c111 => ?_) (fun c111 => ?_)
              · rw [if_pos c111] at hE
                refine lv_iinc (v := x1 + 1) (lv' := [(1, .int (x1 + 1)), (3, .int (b2i r6)), (2, .int (b2i r5)), (0, .ref (A 61))]) hx hb dX3_chooseSections_132 hl (k := 3) rfl rfl (by decide) rfl (fun ls hl => ?_)
                refine lv_goto (tgt := 2) hx hb dX3_chooseSections_135 (by decide) ?_
                exact ih2 _ _ _ _ _ hE hI (lv_sub hl [3, 0] rfl)
              · rw [if_neg c111] at hE
                refine lv_aload_n hx hb dX3_chooseSections_114 rfl (lv_at hl 2 rfl) ?_
                refine xg_get (C := RX3) (T := TX3) (M := 6) hx hb hown hG hI (by omega) eX_61 rfl inX3 1 (by decide) kf_X3_21 rfl dX3_chooseSections_115 ?_
                refine lv_iload_n hx hb dX3_chooseSections_118 rfl (lv_at hl 3 rfl) ?_
                obtain ⟨mu12, hc, hE⟩ := bd1_some hE
                obtain ⟨ff, hf, hu⟩ := stO_some hc
                refine xc_V0 (rest := []) (Ct.toXw (j := 24) (by omega) hu (c_X4_include (OKX (j := 24) (by omega)) hf)) mw_X4_include km_X3_85 hx hb hml hown hG hI xA_of (wG_atE (by omega) (eX_O (j := 24) (by omega))) rfl rfl ⟨Nat.le_of_ble_eq_true rfl, Nat.le_of_ble_eq_true rfl⟩ rfl hl.1 rfl (Nat.le_of_ble_eq_true rfl) dX3_chooseSections_119 (fun H locs hI => ?_)
                refine lv_aload_n hx hb dX3_chooseSections_122 rfl (lv_at hl 2 rfl) ?_
                refine xg_get (C := RX3) (T := TX3) (M := 6) hx hb hown hG hI (by omega) eX_61 rfl inX3 2 (by decide) kf_X3_30 rfl dX3_chooseSections_123 ?_
                refine lv_iconst (v := 3) hx hb dX3_chooseSections_126 (by decide) ?_
                refine lv_iload_n hx hb dX3_chooseSections_127 rfl (lv_at hl 3 rfl) ?_
                refine lv_iload_n hx hb dX3_chooseSections_128 rfl (lv_at hl 3 rfl) ?_
                obtain ⟨mu13, hc, hE⟩ := bd1_some hE
                refine xc_V0 (rest := []) (c_X6_tell (by omega) hc) mw_X6_tell km_X3_92 hx hb hml hown hG hI xA_of (wG_atE (by omega) (eX_T (t := 0) (by omega))) rfl rfl ⟨Nat.le_of_ble_eq_true rfl, Nat.le_of_ble_eq_true rfl⟩ rfl hl.1 rfl (Nat.le_of_ble_eq_true rfl) dX3_chooseSections_129 (fun H locs hI => ?_)
                refine lv_iinc (v := x1 + 1) (lv' := [(1, .int (x1 + 1)), (3, .int (b2i r6)), (2, .int (b2i r5)), (0, .ref (A 61))]) hx hb dX3_chooseSections_132 hl (k := 3) rfl rfl (by decide) rfl (fun ls hl => ?_)
                refine lv_goto (tgt := 2) hx hb dX3_chooseSections_135 (by decide) ?_
                exact ih2 _ _ _ _ _ hE hI (lv_sub hl [3, 0] rfl)
          · rw [if_neg c66] at hE
            refine lv_iload_n hx hb dX3_chooseSections_69 rfl (lv_at hl 0 rfl) ?_
            refine lv_if_eq (tgt := 84) hx hb dX3_chooseSections_70 (by decide) (fun c70 => ?_) (fun c70 => ?_)
            · rw [if_pos c70] at hE
              refine lv_aload_n hx hb dX3_chooseSections_84 rfl (lv_at hl 2 rfl) ?_
              refine lv_iload_n hx hb dX3_chooseSections_85 rfl (lv_at hl 3 rfl) ?_
              refine lv_aload_n hx hb dX3_chooseSections_86 rfl (lv_at hl 2 rfl) ?_
              refine xg_get (C := RX3) (T := TX3) (M := 6) hx hb hown hG hI (by omega) eX_61 rfl inX3 0 (by decide) kf_X3_12 rfl dX3_chooseSections_87 ?_
              refine xg_getN (C := RX0) (T := TX0) (M := 5) hx hb hown hG hI (by omega) (eX_D (d := 7) (by omega)) rfl inX0 1 (by decide) kf_X3_72 rfl dX3_chooseSections_90 ?_
              obtain ⟨r14, hc, hE⟩ := bd1_some hE
              refine xc_V1 (rest := []) (c_X3_isChanged (by omega) hc) mw_X3_isChanged km_X3_88 hx hb hml hown hG hI xA_of (wG_atE (by omega) eX_61) rfl rfl ⟨Nat.le_of_ble_eq_true rfl, Nat.le_of_ble_eq_true rfl⟩ rfl hl.1 rfl (Nat.le_of_ble_eq_true rfl) dX3_chooseSections_93 (fun H locs hI => ?_)
              refine lv_if_ne (tgt := 114) hx hb dX3_chooseSections_96 (by decide) (fun c96 => ?_) (fun c96 => ?_)
              · rw [if_neg c96] at hE
                refine lv_aload_n hx hb dX3_chooseSections_114 rfl (lv_at hl 2 rfl) ?_
                refine xg_get (C := RX3) (T := TX3) (M := 6) hx hb hown hG hI (by omega) eX_61 rfl inX3 1 (by decide) kf_X3_21 rfl dX3_chooseSections_115 ?_
                refine lv_iload_n hx hb dX3_chooseSections_118 rfl (lv_at hl 3 rfl) ?_
                obtain ⟨mu15, hc, hE⟩ := bd1_some hE
                obtain ⟨ff, hf, hu⟩ := stO_some hc
                refine xc_V0 (rest := []) (Ct.toXw (j := 24) (by omega) hu (c_X4_include (OKX (j := 24) (by omega)) hf)) mw_X4_include km_X3_85 hx hb hml hown hG hI xA_of (wG_atE (by omega) (eX_O (j := 24) (by omega))) rfl rfl ⟨Nat.le_of_ble_eq_true rfl, Nat.le_of_ble_eq_true rfl⟩ rfl hl.1 rfl (Nat.le_of_ble_eq_true rfl) dX3_chooseSections_119 (fun H locs hI => ?_)
                refine lv_aload_n hx hb dX3_chooseSections_122 rfl (lv_at hl 2 rfl) ?_
                refine xg_get (C := RX3) (T := TX3) (M := 6) hx hb hown hG hI (by omega) eX_61 rfl inX3 2 (by decide) kf_X3_30 rfl dX3_chooseSections_123 ?_
                refine lv_iconst (v := 3) hx hb dX3_chooseSections_126 (by decide) ?_
                refine lv_iload_n hx hb dX3_chooseSections_127 rfl (lv_at hl 3 rfl) ?_
                refine lv_iload_n hx hb dX3_chooseSections_128 rfl (lv_at hl 3 rfl) ?_
                obtain ⟨mu16, hc, hE⟩ := bd1_some hE
                refine xc_V0 (rest := []) (c_X6_tell (by omega) hc) mw_X6_tell km_X3_92 hx hb hml hown hG hI xA_of (wG_atE (by omega) (eX_T (t := 0) (by omega))) rfl rfl ⟨Nat.le_of_ble_eq_true rfl, Nat.le_of_ble_eq_true rfl⟩ rfl hl.1 rfl (Nat.le_of_ble_eq_true rfl) dX3_chooseSections_129 (fun H locs hI => ?_)
                refine lv_iinc (v := x1 + 1) (lv' := [(1, .int (x1 + 1)), (3, .int (b2i r6)), (2, .int (b2i r5)), (0, .ref (A 61))]) hx hb dX3_chooseSections_132 hl (k := 3) rfl rfl (by decide) rfl (fun ls hl => ?_)
                refine lv_goto (tgt := 2) hx hb dX3_chooseSections_135 (by decide) ?_
                exact ih2 _ _ _ _ _ hE hI (lv_sub hl [3, 0] rfl)
              · rw [if_pos c96] at hE
                refine lv_aload_n hx hb dX3_chooseSections_99 rfl (lv_at hl 2 rfl) ?_
                refine lv_iload_n hx hb dX3_chooseSections_100 rfl (lv_at hl 3 rfl) ?_
                refine lv_aload_n hx hb dX3_chooseSections_101 rfl (lv_at hl 2 rfl) ?_
                refine xg_get (C := RX3) (T := TX3) (M := 6) hx hb hown hG hI (by omega) eX_61 rfl inX3 0 (by decide) kf_X3_12 rfl dX3_chooseSections_102 ?_
                refine xg_getN (C := RX0) (T := TX0) (M := 5) hx hb hown hG hI (by omega) (eX_D (d := 7) (by omega)) rfl inX0 2 (by decide) kf_X3_79 rfl dX3_chooseSections_105 ?_
                obtain ⟨r17, hc, hE⟩ := bd1_some hE
                refine xc_V1 (rest := []) (c_X3_isChanged (by omega) hc) mw_X3_isChanged km_X3_88 hx hb hml hown hG hI xA_of (wG_atE (by omega) eX_61) rfl rfl ⟨Nat.le_of_ble_eq_true rfl, Nat.le_of_ble_eq_true rfl⟩ rfl hl.1 rfl (Nat.le_of_ble_eq_true rfl) dX3_chooseSections_108 (fun H locs hI => ?_)
                refine lv_if_eq (tgt := 132) hx hb dX3_chooseSections_111 (by decide) (fun c111 => ?_) (fun c111 => ?_)
                · rw [if_pos c111] at hE
                  refine lv_iinc (v := x1 + 1) (lv' := [(1, .int (x1 + 1)), (3, .int (b2i r6)), (2, .int (b2i r5)), (0, .ref (A 61))]) hx hb dX3_chooseSections_132 hl (k := 3) rfl rfl (by decide) rfl (fun ls hl => ?_)
                  refine lv_goto (tgt := 2) hx hb dX3_chooseSections_135 (by decide) ?_
                  exact ih2 _ _ _ _ _ hE hI (lv_sub hl [3, 0] rfl)
                · rw [if_neg c111] at hE
                  refine lv_aload_n hx hb dX3_chooseSections_114 rfl (lv_at hl 2 rfl) ?_
                  refine xg_get (C := RX3) (T := TX3) (M := 6) hx hb hown hG hI (by omega) eX_61 rfl inX3 1 (by decide) kf_X3_21 rfl dX3_chooseSections_115 ?_
                  refine lv_iload_n hx hb dX3_chooseSections_118 rfl (lv_at hl 3 rfl) ?_
                  obtain ⟨mu18, hc, hE⟩ := bd1_some hE
                  obtain ⟨ff, hf, hu⟩ := stO_some hc
                  refine xc_V0 (rest := []) (Ct.toXw (j := 24) (by omega) hu (c_X4_include (OKX (j := 24) (by omega)) hf)) mw_X4_include km_X3_85 hx hb hml hown hG hI xA_of (wG_atE (by omega) (eX_O (j := 24) (by omega))) rfl rfl ⟨Nat.le_of_ble_eq_true rfl, Nat.le_of_ble_eq_true rfl⟩ rfl hl.1 rfl (Nat.le_of_ble_eq_true rfl) dX3_chooseSections_119 (fun H locs hI => ?_)
                  refine lv_aload_n hx hb dX3_chooseSections_122 rfl (lv_at hl 2 rfl) ?_
                  refine xg_get (C := RX3) (T := TX3) (M := 6) hx hb hown hG hI (by omega) eX_61 rfl inX3 2 (by decide) kf_X3_30 rfl dX3_chooseSections_123 ?_
                  refine lv_iconst (v := 3) hx hb dX3_chooseSections_126 (by decide) ?_
                  refine lv_iload_n hx hb dX3_chooseSections_127 rfl (lv_at hl 3 rfl) ?_
                  refine lv_iload_n hx hb dX3_chooseSections_128 rfl (lv_at hl 3 rfl) ?_
                  obtain ⟨mu19, hc, hE⟩ := bd1_some hE
                  refine xc_V0 (rest := []) (c_X6_tell (by omega) hc) mw_X6_tell km_X3_92 hx hb hml hown hG hI xA_of (wG_atE (by omega) (eX_T (t := 0) (by omega))) rfl rfl ⟨Nat.le_of_ble_eq_true rfl, Nat.le_of_ble_eq_true rfl⟩ rfl hl.1 rfl (Nat.le_of_ble_eq_true rfl) dX3_chooseSections_129 (fun H locs hI => ?_)
                  refine lv_iinc (v := x1 + 1) (lv' := [(1, .int (x1 + 1)), (3, .int (b2i r6)), (2, .int (b2i r5)), (0, .ref (A 61))]) hx hb dX3_chooseSections_132 hl (k := 3) rfl rfl (by decide) rfl (fun ls hl => ?_)
                  refine lv_goto (tgt := 2) hx hb dX3_chooseSections_135 (by decide) ?_
                  exact ih2 _ _ _ _ _ hE hI (lv_sub hl [3, 0] rfl)
            · rw [if_neg c70] at hE
              refine lv_aload_n hx hb dX3_chooseSections_73 rfl (lv_at hl 2 rfl) ?_
              refine xg_get (C := RX3) (T := TX3) (M := 6) hx hb hown hG hI (by omega) eX_61 rfl inX3 1 (by decide) kf_X3_21 rfl dX3_chooseSections_74 ?_
              refine lv_iload_n hx hb dX3_chooseSections_77 rfl (lv_at hl 3 rfl) ?_
              obtain ⟨mu20, hc, hE⟩ := bd1_some hE
              obtain ⟨ff, hf, hu⟩ := stO_some hc
              refine xc_V0 (rest := []) (Ct.toXw (j := 24) (by omega) hu (c_X4_include (OKX (j := 24) (by omega)) hf)) mw_X4_include km_X3_85 hx hb hml hown hG hI xA_of (wG_atE (by omega) (eX_O (j := 24) (by omega))) rfl rfl ⟨Nat.le_of_ble_eq_true rfl, Nat.le_of_ble_eq_true rfl⟩ rfl hl.1 rfl (Nat.le_of_ble_eq_true rfl) dX3_chooseSections_78 (fun H locs hI => ?_)
              refine lv_goto (tgt := 132) hx hb dX3_chooseSections_81 (by decide) ?_
              refine lv_iinc (v := x1 + 1) (lv' := [(1, .int (x1 + 1)), (3, .int (b2i r6)), (2, .int (b2i r5)), (0, .ref (A 61))]) hx hb dX3_chooseSections_132 hl (k := 3) rfl rfl (by decide) rfl (fun ls hl => ?_)
              refine lv_goto (tgt := 2) hx hb dX3_chooseSections_135 (by decide) ?_
              exact ih2 _ _ _ _ _ hE hI (lv_sub hl [3, 0] rfl)
        · rw [if_pos c43] at hE
          refine lv_iload_n hx hb dX3_chooseSections_46 rfl (lv_at hl 1 rfl) ?_
          refine lv_if_ne (tgt := 54) hx hb dX3_chooseSections_47 (by decide) (fun c47 => ?_) (fun c47 => ?_)
          · rw [if_neg c47] at hE
            refine lv_aload_n hx hb dX3_chooseSections_54 rfl (lv_at hl 2 rfl) ?_
            refine xg_get (C := RX3) (T := TX3) (M := 6) hx hb hown hG hI (by omega) eX_61 rfl inX3 1 (by decide) kf_X3_21 rfl dX3_chooseSections_55 ?_
            refine lv_iload_n hx hb dX3_chooseSections_58 rfl (lv_at hl 3 rfl) ?_
            obtain ⟨mu21, hc, hE⟩ := bd1_some hE
            obtain ⟨ff, hf, hu⟩ := stO_some hc
            refine xc_V0 (rest := []) (Ct.toXw (j := 24) (by omega) hu (c_X4_include (OKX (j := 24) (by omega)) hf)) mw_X4_include km_X3_85 hx hb hml hown hG hI xA_of (wG_atE (by omega) (eX_O (j := 24) (by omega))) rfl rfl ⟨Nat.le_of_ble_eq_true rfl, Nat.le_of_ble_eq_true rfl⟩ rfl hl.1 rfl (Nat.le_of_ble_eq_true rfl) dX3_chooseSections_59 (fun H locs hI => ?_)
            refine lv_goto (tgt := 132) hx hb dX3_chooseSections_62 (by decide) ?_
            refine lv_iinc (v := x1 + 1) (lv' := [(1, .int (x1 + 1)), (3, .int (b2i r6)), (2, .int (b2i r5)), (0, .ref (A 61))]) hx hb dX3_chooseSections_132 hl (k := 3) rfl rfl (by decide) rfl (fun ls hl => ?_)
            refine lv_goto (tgt := 2) hx hb dX3_chooseSections_135 (by decide) ?_
            exact ih2 _ _ _ _ _ hE hI (lv_sub hl [3, 0] rfl)
          · rw [if_pos c47] at hE
            refine lv_iload_n hx hb dX3_chooseSections_50 rfl (lv_at hl 0 rfl) ?_
            refine lv_if_eq (tgt := 132) hx hb dX3_chooseSections_51 (by decide) (fun c51 => ?_) (fun c51 => ?_)
            · rw [if_pos c51] at hE
              refine lv_iinc (v := x1 + 1) (lv' := [(1, .int (x1 + 1)), (3, .int (b2i r6)), (2, .int (b2i r5)), (0, .ref (A 61))]) hx hb dX3_chooseSections_132 hl (k := 3) rfl rfl (by decide) rfl (fun ls hl => ?_)
              refine lv_goto (tgt := 2) hx hb dX3_chooseSections_135 (by decide) ?_
              exact ih2 _ _ _ _ _ hE hI (lv_sub hl [3, 0] rfl)
            · rw [if_neg c51] at hE
              refine lv_aload_n hx hb dX3_chooseSections_54 rfl (lv_at hl 2 rfl) ?_
              refine xg_get (C := RX3) (T := TX3) (M := 6) hx hb hown hG hI (by omega) eX_61 rfl inX3 1 (by decide) kf_X3_21 rfl dX3_chooseSections_55 ?_
              refine lv_iload_n hx hb dX3_chooseSections_58 rfl (lv_at hl 3 rfl) ?_
              obtain ⟨mu22, hc, hE⟩ := bd1_some hE
              obtain ⟨ff, hf, hu⟩ := stO_some hc
              refine xc_V0 (rest := []) (Ct.toXw (j := 24) (by omega) hu (c_X4_include (OKX (j := 24) (by omega)) hf)) mw_X4_include km_X3_85 hx hb hml hown hG hI xA_of (wG_atE (by omega) (eX_O (j := 24) (by omega))) rfl rfl ⟨Nat.le_of_ble_eq_true rfl, Nat.le_of_ble_eq_true rfl⟩ rfl hl.1 rfl (Nat.le_of_ble_eq_true rfl) dX3_chooseSections_59 (fun H locs hI => ?_)
              refine lv_goto (tgt := 132) hx hb dX3_chooseSections_62 (by decide) ?_
              refine lv_iinc (v := x1 + 1) (lv' := [(1, .int (x1 + 1)), (3, .int (b2i r6)), (2, .int (b2i r5)), (0, .ref (A 61))]) hx hb dX3_chooseSections_132 hl (k := 3) rfl rfl (by decide) rfl (fun ls hl => ?_)
              refine lv_goto (tgt := 2) hx hb dX3_chooseSections_135 (by decide) ?_
              exact ih2 _ _ _ _ _ hE hI (lv_sub hl [3, 0] rfl)
  exact hL2 _ _ _ _ _ _ hE hI (lv_sub hl [1, 0] rfl)
def X3_sourceOf (u : Mem) (p1 : Int32) (p2 : Int32) : Option (Nat) :=
  (X0_preferredSide u 7 : Option Nat).bind fun (r1 : Nat) => (X0_otherSide u 7 : Option Nat).bind fun (r2 : Nat) => (X4_holds (u (25 + r1)) p1 : Option Bool).bind fun (r3 : Bool) => (if (b2i r3) = 0 then some r2 else (X4_holds (u 46) p1 : Option Bool).bind fun (r4 : Bool) => ((if (b2i r4) = 0 then some 0 else (X3_isOther u p1 r1 p2 : Option Bool).bind fun (r8 : Bool) => (if (b2i r8) = 0 then some 1 else some 0)) : Option Int32).bind fun (x5 : Int32) => (X4_holds (u (25 + r2)) p1 : Option Bool).bind fun (r7 : Bool) => (if (b2i r7) = 0 then some r1 else (if x5 = 0 then some r1 else some r2)))
set_option maxHeartbeats 4000000 in
set_option maxRecDepth 100000 in
theorem c_X3_sourceOf {l : Launch} {D : va_G} {A : Nat → Nat} {cI cZ cD : ClassId} {u : Mem} {p1 : Int32} {p2 : Int32} {r : Nat}  (hE : X3_sourceOf u p1 p2 = some (r)) : Ct l yX3_sourceOf cX3_sourceOf 6 (some (.object "MergedOutline$Outline")) (rmOf 2 45) D (tyL cI cZ cD) [.ref (A 61), .int p1, .int p2] (wX A cI cZ cD u) (some (.ref (A r))) (wX A cI cZ cD u) := by
  refine Ct.ofW (by decide +kernel) (fun p e s m below meth c hC hI => ?_)
  obtain ⟨hx, hb, hml, hown, hr, hlk, hG⟩ := hC
  have hown : s.vm.findClass RX3 = some m.cls := hown
  have hl := lv_entry ([.ref (A 61), .int p1, .int p2] : List Value) (n := 6) (Nat.le_of_ble_eq_true rfl)
  rw [lg_entry_eq]
  generalize (lg_sl ([.ref (A 61), .int p1, .int p2] : List Value) ++ List.replicate (6 - (lg_sl ([.ref (A 61), .int p1, .int p2] : List Value)).length) Slot.unset).toArray = ls at hl ⊢
  have hl : lv_has ls 6 [(0, .ref (A 61)), (1, .int p1), (2, .int p2)] := hl
  unfold X3_sourceOf at hE
  refine lv_aload_n hx hb dX3_sourceOf_0 rfl (lv_at hl 0 rfl) ?_
  refine xg_get (C := RX3) (T := TX3) (M := 6) hx hb hown hG hI (by omega) eX_61 rfl inX3 0 (by decide) kf_X3_12 rfl dX3_sourceOf_1 ?_
  obtain ⟨r1, hc, hE⟩ := bd1_some hE
  refine xc_V1 (rest := []) (c_X0_preferredSide (by omega) hc) mw_X0_preferredSide km_X3_125 hx hb hml hown hG hI xA_of (wG_atE (by omega) (eX_D (d := 7) (by omega))) rfl rfl ⟨Nat.le_of_ble_eq_true rfl, Nat.le_of_ble_eq_true rfl⟩ rfl hl.1 rfl (Nat.le_of_ble_eq_true rfl) dX3_sourceOf_4 (fun H locs hI => ?_)
  have hr1 : r1 < 25 := lt_X0_preferredSide (by omega) hc
  refine lv_astore_n (lv' := [(3, .ref (A r1)), (0, .ref (A 61)), (1, .int p1), (2, .int p2)]) hx hb dX3_sourceOf_7 rfl hl (by decide) rfl (fun ls hl => ?_)
  refine lv_aload_n hx hb dX3_sourceOf_8 rfl (lv_at hl 1 rfl) ?_
  refine xg_get (C := RX3) (T := TX3) (M := 6) hx hb hown hG hI (by omega) eX_61 rfl inX3 0 (by decide) kf_X3_12 rfl dX3_sourceOf_9 ?_
  obtain ⟨r2, hc, hE⟩ := bd1_some hE
  refine xc_V1 (rest := []) (c_X0_otherSide (by omega) hc) mw_X0_otherSide km_X3_121 hx hb hml hown hG hI xA_of (wG_atE (by omega) (eX_D (d := 7) (by omega))) rfl rfl ⟨Nat.le_of_ble_eq_true rfl, Nat.le_of_ble_eq_true rfl⟩ rfl hl.1 rfl (Nat.le_of_ble_eq_true rfl) dX3_sourceOf_12 (fun H locs hI => ?_)
  have hr2 : r2 < 25 := lt_X0_otherSide (by omega) hc
  refine lv_astore (lv' := [(4, .ref (A r2)), (3, .ref (A r1)), (0, .ref (A 61)), (1, .int p1), (2, .int p2)]) hx hb dX3_sourceOf_15 hl (by decide) rfl (fun ls hl => ?_)
  refine lv_aload_n hx hb dX3_sourceOf_17 rfl (lv_at hl 1 rfl) ?_
  refine lv_iload_n hx hb dX3_sourceOf_18 rfl (lv_at hl 3 rfl) ?_
  obtain ⟨r3, hc, hE⟩ := bd1_some hE
  refine xc_V1 (rest := []) (Ct.toXr (j := r1) (by omega) (c_X4_holds (OKX (j := r1) (by omega)) hc)) mw_X4_holds km_X3_75 hx hb hml hown hG hI xA_of (wG_atE (by omega) (eX_O (j := r1) (by omega))) rfl rfl ⟨Nat.le_of_ble_eq_true rfl, Nat.le_of_ble_eq_true rfl⟩ rfl hl.1 rfl (Nat.le_of_ble_eq_true rfl) dX3_sourceOf_19 (fun H locs hI => ?_)
  refine lv_if_ne (tgt := 28) hx hb dX3_sourceOf_22 (by decide) (fun c22 => ?_) (fun c22 => ?_)
  · rw [if_neg c22] at hE
    refine lv_aload_n hx hb dX3_sourceOf_28 rfl (lv_at hl 2 rfl) ?_
    refine xg_get (C := RX3) (T := TX3) (M := 6) hx hb hown hG hI (by omega) eX_61 rfl inX3 0 (by decide) kf_X3_12 rfl dX3_sourceOf_29 ?_
    refine xg_getN (C := RX0) (T := TX0) (M := 5) hx hb hown hG hI (by omega) (eX_D (d := 7) (by omega)) rfl inX0 0 (by decide) kf_X3_82 rfl dX3_sourceOf_32 ?_
    refine lv_iload_n hx hb dX3_sourceOf_35 rfl (lv_at hl 3 rfl) ?_
    obtain ⟨r4, hc, hE⟩ := bd1_some hE
    refine xc_V1 (rest := []) (Ct.toXr (j := 21) (by omega) (c_X4_holds (OKX (j := 21) (by omega)) hc)) mw_X4_holds km_X3_75 hx hb hml hown hG hI xA_of (wG_atE (by omega) (eX_O (j := 21) (by omega))) rfl rfl ⟨Nat.le_of_ble_eq_true rfl, Nat.le_of_ble_eq_true rfl⟩ rfl hl.1 rfl (Nat.le_of_ble_eq_true rfl) dX3_sourceOf_36 (fun H locs hI => ?_)
    obtain ⟨x5, hZ, hE⟩ := bd1_some hE
    have hJ57_5 : ∀ (H : Heap) (locs : List Loc) (ls : Array Slot), xI D (va_A (wX A cI cZ cD u) s.heap.size) s.heap (wX A cI cZ cD u) H locs → lv_has ls 6 [(1, .int p1), (3, .ref (A r1)), (4, .ref (A r2))] → W p l e (rmOf 2 45) s m ([.ref (A 61), .int p1, .int p2] : List Value).toArray below meth c H locs 0 0 (xQ D (tyL cI cZ cD) below ([.ref (A 61), .int p1, .int p2] : List Value).toArray s (wX A cI cZ cD u) (some (.ref (A r))) (wX A cI cZ cD u)) (F0 m 57 ls [.int x5]) := by
      intro H locs ls hI hl
      clear hZ
      refine lv_istore (lv' := [(5, .int x5), (1, .int p1), (3, .ref (A r1)), (4, .ref (A r2))]) hx hb dX3_sourceOf_57 hl (by decide) rfl (fun ls hl => ?_)
      refine lv_aload hx hb dX3_sourceOf_59 (lv_at hl 3 rfl) ?_
      refine lv_iload_n hx hb dX3_sourceOf_61 rfl (lv_at hl 1 rfl) ?_
      obtain ⟨r7, hc, hE⟩ := bd1_some hE
      refine xc_V1 (rest := []) (Ct.toXr (j := r2) (by omega) (c_X4_holds (OKX (j := r2) (by omega)) hc)) mw_X4_holds km_X3_75 hx hb hml hown hG hI xA_of (wG_atE (by omega) (eX_O (j := r2) (by omega))) rfl rfl ⟨Nat.le_of_ble_eq_true rfl, Nat.le_of_ble_eq_true rfl⟩ rfl hl.1 rfl (Nat.le_of_ble_eq_true rfl) dX3_sourceOf_62 (fun H locs hI => ?_)
      refine lv_if_eq (tgt := 78) hx hb dX3_sourceOf_65 (by decide) (fun c65 => ?_) (fun c65 => ?_)
      · rw [if_pos c65] at hE
        refine lv_aload_n hx hb dX3_sourceOf_78 rfl (lv_at hl 2 rfl) ?_
        obtain rfl := sm1 hE
        exact xr_a hx hb hr hlk (Or.inr ⟨_, rfl⟩) hG hI dX3_sourceOf_79
      · rw [if_neg c65] at hE
        refine lv_iload hx hb dX3_sourceOf_68 (lv_at hl 0 rfl) ?_
        refine lv_if_eq (tgt := 78) hx hb dX3_sourceOf_70 (by decide) (fun c70 => ?_) (fun c70 => ?_)
        · rw [if_pos c70] at hE
          refine lv_aload_n hx hb dX3_sourceOf_78 rfl (lv_at hl 2 rfl) ?_
          obtain rfl := sm1 hE
          exact xr_a hx hb hr hlk (Or.inr ⟨_, rfl⟩) hG hI dX3_sourceOf_79
        · rw [if_neg c70] at hE
          refine lv_aload hx hb dX3_sourceOf_73 (lv_at hl 3 rfl) ?_
          refine lv_goto (tgt := 79) hx hb dX3_sourceOf_75 (by decide) ?_
          obtain rfl := sm1 hE
          exact xr_a hx hb hr hlk (Or.inr ⟨_, rfl⟩) hG hI dX3_sourceOf_79
    replace hE := hZ
    clear hZ
    refine lv_if_eq (tgt := 56) hx hb dX3_sourceOf_39 (by decide) (fun c39 => ?_) (fun c39 => ?_)
    · rw [if_pos c39] at hE
      refine lv_iconst (v := 0) hx hb dX3_sourceOf_56 (by decide) ?_
      obtain rfl := sm1 hE
      exact hJ57_5 _ _ _ hI (lv_sub hl [3, 1, 0] rfl)
    · rw [if_neg c39] at hE
      refine lv_aload_n hx hb dX3_sourceOf_42 rfl (lv_at hl 2 rfl) ?_
      refine lv_iload_n hx hb dX3_sourceOf_43 rfl (lv_at hl 3 rfl) ?_
      refine lv_aload_n hx hb dX3_sourceOf_44 rfl (lv_at hl 1 rfl) ?_
      refine lv_iload_n hx hb dX3_sourceOf_45 rfl (lv_at hl 4 rfl) ?_
      obtain ⟨r8, hc, hE⟩ := bd1_some hE
      refine xc_V1 (rest := []) (c_X3_isOther (by omega) hc) mw_X3_isOther km_X3_96 hx hb hml hown hG hI xA_of (wG_atE (by omega) eX_61) rfl rfl ⟨Nat.le_of_ble_eq_true rfl, Nat.le_of_ble_eq_true rfl⟩ rfl hl.1 rfl (Nat.le_of_ble_eq_true rfl) dX3_sourceOf_46 (fun H locs hI => ?_)
      refine lv_if_ne (tgt := 56) hx hb dX3_sourceOf_49 (by decide) (fun c49 => ?_) (fun c49 => ?_)
      · rw [if_neg c49] at hE
        refine lv_iconst (v := 0) hx hb dX3_sourceOf_56 (by decide) ?_
        obtain rfl := sm1 hE
        exact hJ57_5 _ _ _ hI (lv_sub hl [3, 1, 0] rfl)
      · rw [if_pos c49] at hE
        refine lv_iconst (v := 1) hx hb dX3_sourceOf_52 (by decide) ?_
        refine lv_goto (tgt := 57) hx hb dX3_sourceOf_53 (by decide) ?_
        obtain rfl := sm1 hE
        exact hJ57_5 _ _ _ hI (lv_sub hl [3, 1, 0] rfl)
  · rw [if_pos c22] at hE
    refine lv_aload hx hb dX3_sourceOf_25 (lv_at hl 0 rfl) ?_
    obtain rfl := sm1 hE
    exact xr_a hx hb hr hlk (Or.inr ⟨_, rfl⟩) hG hI dX3_sourceOf_27
theorem lt_X3_sourceOf {u : Mem} {p1 p2 : Int32} {r : Nat} (h : X3_sourceOf u p1 p2 = some r) : r < 25 := by
  unfold X3_sourceOf at h
  obtain ⟨a, ha, h⟩ := bd1_some h
  obtain ⟨b, hb, h⟩ := bd1_some h
  have h1 := lt_X0_preferredSide (by omega) ha
  have h2 := lt_X0_otherSide (by omega) hb
  obtain ⟨c, hc, h⟩ := bd1_some h
  split at h
  · cases h; omega
  · obtain ⟨d, hd, h⟩ := bd1_some h
    obtain ⟨e, he, h⟩ := bd1_some h
    obtain ⟨g, hg, h⟩ := bd1_some h
    repeat' split at h
    all_goals (cases h; omega)
def X3_isDisputed (u : Mem) (p1 : Int32) (p2 : Int32) : Option (Bool) :=
  (X0_preferredSide u 7 : Option Nat).bind fun (r1 : Nat) => (X0_otherSide u 7 : Option Nat).bind fun (r2 : Nat) => (X4_holds (u (25 + r1)) p1 : Option Bool).bind fun (r3 : Bool) => (if (b2i r3) = 0 then some false else (X4_holds (u (25 + r2)) p1 : Option Bool).bind fun (r4 : Bool) => (if (b2i r4) = 0 then some false else (X4_trait (u (25 + r1)) p1 p2 : Option Int32).bind fun (r5 : Int32) => (X4_trait (u (25 + r2)) p1 p2 : Option Int32).bind fun (r6 : Int32) => (if r5 = r6 then some false else (X4_holds (u 46) p1 : Option Bool).bind fun (r7 : Bool) => (if (b2i r7) = 0 then some true else (X3_isOther u p1 r1 p2 : Option Bool).bind fun (r8 : Bool) => (if (b2i r8) = 0 then some false else (X3_isOther u p1 r2 p2 : Option Bool).bind fun (r9 : Bool) => (if (b2i r9) = 0 then some false else some true))))))
set_option maxHeartbeats 4000000 in
set_option maxRecDepth 100000 in
theorem c_X3_isDisputed {l : Launch} {D : va_G} {A : Nat → Nat} {cI cZ cD : ClassId} {u : Mem} {p1 : Int32} {p2 : Int32} {r : Bool}  (hE : X3_isDisputed u p1 p2 = some (r)) : Ct l yX3_isDisputed cX3_isDisputed 5 (some .boolean) (rmOf 2 45) D (tyL cI cZ cD) [.ref (A 61), .int p1, .int p2] (wX A cI cZ cD u) (some (.int (b2i r))) (wX A cI cZ cD u) := by
  refine Ct.ofW (by decide +kernel) (fun p e s m below meth c hC hI => ?_)
  obtain ⟨hx, hb, hml, hown, hr, hlk, hG⟩ := hC
  have hown : s.vm.findClass RX3 = some m.cls := hown
  have hl := lv_entry ([.ref (A 61), .int p1, .int p2] : List Value) (n := 5) (Nat.le_of_ble_eq_true rfl)
  rw [lg_entry_eq]
  generalize (lg_sl ([.ref (A 61), .int p1, .int p2] : List Value) ++ List.replicate (5 - (lg_sl ([.ref (A 61), .int p1, .int p2] : List Value)).length) Slot.unset).toArray = ls at hl ⊢
  have hl : lv_has ls 5 [(0, .ref (A 61)), (1, .int p1), (2, .int p2)] := hl
  unfold X3_isDisputed at hE
  refine lv_aload_n hx hb dX3_isDisputed_0 rfl (lv_at hl 0 rfl) ?_
  refine xg_get (C := RX3) (T := TX3) (M := 6) hx hb hown hG hI (by omega) eX_61 rfl inX3 0 (by decide) kf_X3_12 rfl dX3_isDisputed_1 ?_
  obtain ⟨r1, hc, hE⟩ := bd1_some hE
  refine xc_V1 (rest := []) (c_X0_preferredSide (by omega) hc) mw_X0_preferredSide km_X3_125 hx hb hml hown hG hI xA_of (wG_atE (by omega) (eX_D (d := 7) (by omega))) rfl rfl ⟨Nat.le_of_ble_eq_true rfl, Nat.le_of_ble_eq_true rfl⟩ rfl hl.1 rfl (Nat.le_of_ble_eq_true rfl) dX3_isDisputed_4 (fun H locs hI => ?_)
  have hr1 : r1 < 25 := lt_X0_preferredSide (by omega) hc
  refine lv_astore_n (lv' := [(3, .ref (A r1)), (0, .ref (A 61)), (1, .int p1), (2, .int p2)]) hx hb dX3_isDisputed_7 rfl hl (by decide) rfl (fun ls hl => ?_)
  refine lv_aload_n hx hb dX3_isDisputed_8 rfl (lv_at hl 1 rfl) ?_
  refine xg_get (C := RX3) (T := TX3) (M := 6) hx hb hown hG hI (by omega) eX_61 rfl inX3 0 (by decide) kf_X3_12 rfl dX3_isDisputed_9 ?_
  obtain ⟨r2, hc, hE⟩ := bd1_some hE
  refine xc_V1 (rest := []) (c_X0_otherSide (by omega) hc) mw_X0_otherSide km_X3_121 hx hb hml hown hG hI xA_of (wG_atE (by omega) (eX_D (d := 7) (by omega))) rfl rfl ⟨Nat.le_of_ble_eq_true rfl, Nat.le_of_ble_eq_true rfl⟩ rfl hl.1 rfl (Nat.le_of_ble_eq_true rfl) dX3_isDisputed_12 (fun H locs hI => ?_)
  have hr2 : r2 < 25 := lt_X0_otherSide (by omega) hc
  refine lv_astore (lv' := [(4, .ref (A r2)), (3, .ref (A r1)), (0, .ref (A 61)), (1, .int p1), (2, .int p2)]) hx hb dX3_isDisputed_15 hl (by decide) rfl (fun ls hl => ?_)
  refine lv_aload_n hx hb dX3_isDisputed_17 rfl (lv_at hl 1 rfl) ?_
  refine lv_iload_n hx hb dX3_isDisputed_18 rfl (lv_at hl 3 rfl) ?_
  obtain ⟨r3, hc, hE⟩ := bd1_some hE
  refine xc_V1 (rest := []) (Ct.toXr (j := r1) (by omega) (c_X4_holds (OKX (j := r1) (by omega)) hc)) mw_X4_holds km_X3_75 hx hb hml hown hG hI xA_of (wG_atE (by omega) (eX_O (j := r1) (by omega))) rfl rfl ⟨Nat.le_of_ble_eq_true rfl, Nat.le_of_ble_eq_true rfl⟩ rfl hl.1 rfl (Nat.le_of_ble_eq_true rfl) dX3_isDisputed_19 (fun H locs hI => ?_)
  refine lv_if_eq (tgt := 50) hx hb dX3_isDisputed_22 (by decide) (fun c22 => ?_) (fun c22 => ?_)
  · rw [if_pos c22] at hE
    refine lv_iconst (v := 0) hx hb dX3_isDisputed_50 (by decide) ?_
    obtain rfl := sm1 hE
    exact xr_z rfl hx hb hr hlk hG hI dX3_isDisputed_51
  · rw [if_neg c22] at hE
    refine lv_aload hx hb dX3_isDisputed_25 (lv_at hl 0 rfl) ?_
    refine lv_iload_n hx hb dX3_isDisputed_27 rfl (lv_at hl 3 rfl) ?_
    obtain ⟨r4, hc, hE⟩ := bd1_some hE
    refine xc_V1 (rest := []) (Ct.toXr (j := r2) (by omega) (c_X4_holds (OKX (j := r2) (by omega)) hc)) mw_X4_holds km_X3_75 hx hb hml hown hG hI xA_of (wG_atE (by omega) (eX_O (j := r2) (by omega))) rfl rfl ⟨Nat.le_of_ble_eq_true rfl, Nat.le_of_ble_eq_true rfl⟩ rfl hl.1 rfl (Nat.le_of_ble_eq_true rfl) dX3_isDisputed_28 (fun H locs hI => ?_)
    refine lv_if_eq (tgt := 50) hx hb dX3_isDisputed_31 (by decide) (fun c31 => ?_) (fun c31 => ?_)
    · rw [if_pos c31] at hE
      refine lv_iconst (v := 0) hx hb dX3_isDisputed_50 (by decide) ?_
      obtain rfl := sm1 hE
      exact xr_z rfl hx hb hr hlk hG hI dX3_isDisputed_51
    · rw [if_neg c31] at hE
      refine lv_aload_n hx hb dX3_isDisputed_34 rfl (lv_at hl 1 rfl) ?_
      refine lv_iload_n hx hb dX3_isDisputed_35 rfl (lv_at hl 3 rfl) ?_
      refine lv_iload_n hx hb dX3_isDisputed_36 rfl (lv_at hl 4 rfl) ?_
      obtain ⟨r5, hc, hE⟩ := bd1_some hE
      refine xc_V1 (rest := []) (Ct.toXr (j := r1) (by omega) (c_X4_trait (OKX (j := r1) (by omega)) hc)) mw_X4_trait km_X3_103 hx hb hml hown hG hI xA_of (wG_atE (by omega) (eX_O (j := r1) (by omega))) rfl rfl ⟨Nat.le_of_ble_eq_true rfl, Nat.le_of_ble_eq_true rfl⟩ rfl hl.1 rfl (Nat.le_of_ble_eq_true rfl) dX3_isDisputed_37 (fun H locs hI => ?_)
      refine lv_aload hx hb dX3_isDisputed_40 (lv_at hl 0 rfl) ?_
      refine lv_iload_n hx hb dX3_isDisputed_42 rfl (lv_at hl 3 rfl) ?_
      refine lv_iload_n hx hb dX3_isDisputed_43 rfl (lv_at hl 4 rfl) ?_
      obtain ⟨r6, hc, hE⟩ := bd1_some hE
      refine xc_V1 (rest := [.int r5]) (Ct.toXr (j := r2) (by omega) (c_X4_trait (OKX (j := r2) (by omega)) hc)) mw_X4_trait km_X3_103 hx hb hml hown hG hI xA_of (wG_atE (by omega) (eX_O (j := r2) (by omega))) rfl rfl ⟨Nat.le_of_ble_eq_true rfl, Nat.le_of_ble_eq_true rfl⟩ rfl hl.1 rfl (Nat.le_of_ble_eq_true rfl) dX3_isDisputed_44 (fun H locs hI => ?_)
      refine lv_icmp_ne (tgt := 52) hx hb dX3_isDisputed_47 (by decide) (fun c47 => ?_) (fun c47 => ?_)
      · rw [if_neg c47] at hE
        refine lv_aload_n hx hb dX3_isDisputed_52 rfl (lv_at hl 2 rfl) ?_
        refine xg_get (C := RX3) (T := TX3) (M := 6) hx hb hown hG hI (by omega) eX_61 rfl inX3 0 (by decide) kf_X3_12 rfl dX3_isDisputed_53 ?_
        refine xg_getN (C := RX0) (T := TX0) (M := 5) hx hb hown hG hI (by omega) (eX_D (d := 7) (by omega)) rfl inX0 0 (by decide) kf_X3_82 rfl dX3_isDisputed_56 ?_
        refine lv_iload_n hx hb dX3_isDisputed_59 rfl (lv_at hl 3 rfl) ?_
        obtain ⟨r7, hc, hE⟩ := bd1_some hE
        refine xc_V1 (rest := []) (Ct.toXr (j := 21) (by omega) (c_X4_holds (OKX (j := 21) (by omega)) hc)) mw_X4_holds km_X3_75 hx hb hml hown hG hI xA_of (wG_atE (by omega) (eX_O (j := 21) (by omega))) rfl rfl ⟨Nat.le_of_ble_eq_true rfl, Nat.le_of_ble_eq_true rfl⟩ rfl hl.1 rfl (Nat.le_of_ble_eq_true rfl) dX3_isDisputed_60 (fun H locs hI => ?_)
        refine lv_if_eq (tgt := 87) hx hb dX3_isDisputed_63 (by decide) (fun c63 => ?_) (fun c63 => ?_)
        · rw [if_pos c63] at hE
          refine lv_iconst (v := 1) hx hb dX3_isDisputed_87 (by decide) ?_
          refine lv_goto (tgt := 92) hx hb dX3_isDisputed_88 (by decide) ?_
          obtain rfl := sm1 hE
          exact xr_z rfl hx hb hr hlk hG hI dX3_isDisputed_92
        · rw [if_neg c63] at hE
          refine lv_aload_n hx hb dX3_isDisputed_66 rfl (lv_at hl 2 rfl) ?_
          refine lv_iload_n hx hb dX3_isDisputed_67 rfl (lv_at hl 3 rfl) ?_
          refine lv_aload_n hx hb dX3_isDisputed_68 rfl (lv_at hl 1 rfl) ?_
          refine lv_iload_n hx hb dX3_isDisputed_69 rfl (lv_at hl 4 rfl) ?_
          obtain ⟨r8, hc, hE⟩ := bd1_some hE
          refine xc_V1 (rest := []) (c_X3_isOther (by omega) hc) mw_X3_isOther km_X3_96 hx hb hml hown hG hI xA_of (wG_atE (by omega) eX_61) rfl rfl ⟨Nat.le_of_ble_eq_true rfl, Nat.le_of_ble_eq_true rfl⟩ rfl hl.1 rfl (Nat.le_of_ble_eq_true rfl) dX3_isDisputed_70 (fun H locs hI => ?_)
          refine lv_if_eq (tgt := 91) hx hb dX3_isDisputed_73 (by decide) (fun c73 => ?_) (fun c73 => ?_)
          · rw [if_pos c73] at hE
            refine lv_iconst (v := 0) hx hb dX3_isDisputed_91 (by decide) ?_
            obtain rfl := sm1 hE
            exact xr_z rfl hx hb hr hlk hG hI dX3_isDisputed_92
          · rw [if_neg c73] at hE
            refine lv_aload_n hx hb dX3_isDisputed_76 rfl (lv_at hl 2 rfl) ?_
            refine lv_iload_n hx hb dX3_isDisputed_77 rfl (lv_at hl 3 rfl) ?_
            refine lv_aload hx hb dX3_isDisputed_78 (lv_at hl 0 rfl) ?_
            refine lv_iload_n hx hb dX3_isDisputed_80 rfl (lv_at hl 4 rfl) ?_
            obtain ⟨r9, hc, hE⟩ := bd1_some hE
            refine xc_V1 (rest := []) (c_X3_isOther (by omega) hc) mw_X3_isOther km_X3_96 hx hb hml hown hG hI xA_of (wG_atE (by omega) eX_61) rfl rfl ⟨Nat.le_of_ble_eq_true rfl, Nat.le_of_ble_eq_true rfl⟩ rfl hl.1 rfl (Nat.le_of_ble_eq_true rfl) dX3_isDisputed_81 (fun H locs hI => ?_)
            refine lv_if_eq (tgt := 91) hx hb dX3_isDisputed_84 (by decide) (fun c84 => ?_) (fun c84 => ?_)
            · rw [if_pos c84] at hE
              refine lv_iconst (v := 0) hx hb dX3_isDisputed_91 (by decide) ?_
              obtain rfl := sm1 hE
              exact xr_z rfl hx hb hr hlk hG hI dX3_isDisputed_92
            · rw [if_neg c84] at hE
              refine lv_iconst (v := 1) hx hb dX3_isDisputed_87 (by decide) ?_
              refine lv_goto (tgt := 92) hx hb dX3_isDisputed_88 (by decide) ?_
              obtain rfl := sm1 hE
              exact xr_z rfl hx hb hr hlk hG hI dX3_isDisputed_92
      · rw [if_pos c47] at hE
        refine lv_iconst (v := 0) hx hb dX3_isDisputed_50 (by decide) ?_
        obtain rfl := sm1 hE
        exact xr_z rfl hx hb hr hlk hG hI dX3_isDisputed_51
def X3_chooseTraits_L2 (p1 : Int32) (p2 : Int32) : Nat → Int32 → Mem → Option (Mem)
  | 0, _, _ => none
  | n2 + 1, x1, mu2 =>
    (if 16 ≤ x1 then some mu2 else (X4_holds (mu2 49) x1 : Option Bool).bind fun (r5 : Bool) => (if (b2i r5) = 0 then X3_chooseTraits_L2 p1 p2 n2 (x1 + 1) mu2 else (X3_sourceOf mu2 x1 p1 : Option Nat).bind fun (r6 : Nat) => (X4_trait (mu2 (25 + r6)) x1 p1 : Option Int32).bind fun (r7 : Int32) => (stO mu2 49 (X4_put (mu2 49) x1 p1 r7) : Option Mem).bind fun (mu8 : Mem) => (X3_isDisputed mu8 x1 p1 : Option Bool).bind fun (r9 : Bool) => (if (b2i r9) = 0 then X3_chooseTraits_L2 p1 p2 n2 (x1 + 1) mu8 else ((if p1 = 0 then (X0_otherSide mu8 7 : Option Nat).bind fun (r13 : Nat) => (X4_trait (mu8 (25 + r13)) x1 0 : Option Int32).bind fun (r14 : Int32) => some r14 else some x1) : Option Int32).bind fun (x10 : Int32) => (X6_tell mu8 0 p2 x1 x10 : Option Mem).bind fun (mu12 : Mem) => X3_chooseTraits_L2 p1 p2 n2 (x1 + 1) mu12)))
def X3_chooseTraits (u : Mem) (p1 : Int32) (p2 : Int32) : Option (Mem) :=
  (X3_chooseTraits_L2 p1 p2 fu 0 u : Option Mem).bind fun (mu3 : Mem) => some mu3
set_option maxHeartbeats 4000000 in
set_option maxRecDepth 100000 in
theorem c_X3_chooseTraits {l : Launch} {D : va_G} {A : Nat → Nat} {cI cZ cD : ClassId} {u u1 : Mem} {p1 : Int32} {p2 : Int32}  (hE : X3_chooseTraits u p1 p2 = some (u1)) : Ct l yX3_chooseTraits cX3_chooseTraits 6 none (rmOf 3 70) D (tyL cI cZ cD) [.ref (A 61), .int p1, .int p2] (wX A cI cZ cD u) none (wX A cI cZ cD u1) := by
  refine Ct.ofW (by decide +kernel) (fun p e s m below meth c hC hI => ?_)
  obtain ⟨hx, hb, hml, hown, hr, hlk, hG⟩ := hC
  have hown : s.vm.findClass RX3 = some m.cls := hown
  have hl := lv_entry ([.ref (A 61), .int p1, .int p2] : List Value) (n := 6) (Nat.le_of_ble_eq_true rfl)
  rw [lg_entry_eq]
  generalize (lg_sl ([.ref (A 61), .int p1, .int p2] : List Value) ++ List.replicate (6 - (lg_sl ([.ref (A 61), .int p1, .int p2] : List Value)).length) Slot.unset).toArray = ls at hl ⊢
  have hl : lv_has ls 6 [(0, .ref (A 61)), (1, .int p1), (2, .int p2)] := hl
  unfold X3_chooseTraits at hE
  refine lv_iconst (v := 0) hx hb dX3_chooseTraits_0 (by decide) ?_
  refine lv_istore_n (lv' := [(3, .int 0), (0, .ref (A 61)), (1, .int p1), (2, .int p2)]) hx hb dX3_chooseTraits_1 rfl hl (by decide) rfl (fun ls hl => ?_)
  obtain ⟨mu3, hZ, hE⟩ := bd1_some hE
  have hX2_3 : ∀ (H : Heap) (locs : List Loc) (ls : Array Slot), xI D (va_A (wX A cI cZ cD u) s.heap.size) s.heap (wX A cI cZ cD mu3) H locs → lv_has ls 6 [] → W p l e (rmOf 3 70) s m ([.ref (A 61), .int p1, .int p2] : List Value).toArray below meth c H locs 0 0 (xQ D (tyL cI cZ cD) below ([.ref (A 61), .int p1, .int p2] : List Value).toArray s (wX A cI cZ cD u) none (wX A cI cZ cD u1)) (F0 m 94 ls []) := by
    intro H locs ls hI hl
    clear hZ
    obtain rfl := sm1 hE
    exact xr_v hx hb hr hlk hG hI dX3_chooseTraits_94
  replace hE := hZ
  clear hZ
  have hL2 : ∀ (n2 : Nat) (x1 : Int32) (mu2 : Mem) (H : Heap) (locs : List Loc) (ls : Array Slot), X3_chooseTraits_L2 p1 p2 n2 x1 mu2 = some mu3 → xI D (va_A (wX A cI cZ cD u) s.heap.size) s.heap (wX A cI cZ cD mu2) H locs → lv_has ls 6 [(0, .ref (A 61)), (1, .int p1), (2, .int p2), (3, .int x1)] → W p l e (rmOf 3 70) s m ([.ref (A 61), .int p1, .int p2] : List Value).toArray below meth c H locs 0 0 (xQ D (tyL cI cZ cD) below ([.ref (A 61), .int p1, .int p2] : List Value).toArray s (wX A cI cZ cD u) none (wX A cI cZ cD u1)) (F0 m 2 ls []) := by
    intro n2
    induction n2 with
    | zero =>
      intro x1 mu2 H locs ls hE
      exact absurd hE (by simp [X3_chooseTraits_L2])
    | succ n2 ih2 =>
      intro x1 mu2 H locs ls hE hI hl
      rw [X3_chooseTraits_L2] at hE
      refine lv_iload_n hx hb dX3_chooseTraits_2 rfl (lv_at hl 3 rfl) ?_
      refine lv_bipush (v := 16) hx hb dX3_chooseTraits_3 (by decide) ?_
      refine lv_icmp_ge (tgt := 94) hx hb dX3_chooseTraits_5 (by decide) (fun c5 => ?_) (fun c5 => ?_)
      · rw [if_pos c5] at hE
        obtain rfl := sm1 hE
        exact hX2_3 _ _ _ hI (lv_sub hl [] rfl)
      · rw [if_neg c5] at hE
        refine lv_aload_n hx hb dX3_chooseTraits_8 rfl (lv_at hl 0 rfl) ?_
        refine xg_get (C := RX3) (T := TX3) (M := 6) hx hb hown hG hI (by omega) eX_61 rfl inX3 1 (by decide) kf_X3_21 rfl dX3_chooseTraits_9 ?_
        refine lv_iload_n hx hb dX3_chooseTraits_12 rfl (lv_at hl 3 rfl) ?_
        obtain ⟨r5, hc, hE⟩ := bd1_some hE
        refine xc_V1 (rest := []) (Ct.toXr (j := 24) (by omega) (c_X4_holds (OKX (j := 24) (by omega)) hc)) mw_X4_holds km_X3_75 hx hb hml hown hG hI xA_of (wG_atE (by omega) (eX_O (j := 24) (by omega))) rfl rfl ⟨Nat.le_of_ble_eq_true rfl, Nat.le_of_ble_eq_true rfl⟩ rfl hl.1 rfl (Nat.le_of_ble_eq_true rfl) dX3_chooseTraits_13 (fun H locs hI => ?_)
        refine lv_if_ne (tgt := 22) hx hb dX3_chooseTraits_16 (by decide) (fun c16 => ?_) (fun c16 => ?_)
        · rw [if_neg c16] at hE
          refine lv_aload_n hx hb dX3_chooseTraits_22 rfl (lv_at hl 0 rfl) ?_
          refine lv_iload_n hx hb dX3_chooseTraits_23 rfl (lv_at hl 3 rfl) ?_
          refine lv_iload_n hx hb dX3_chooseTraits_24 rfl (lv_at hl 1 rfl) ?_
          obtain ⟨r6, hc, hE⟩ := bd1_some hE
          refine xc_V1 (rest := []) (c_X3_sourceOf hc) mw_X3_sourceOf km_X3_111 hx hb hml hown hG hI xA_of (wG_atE (by omega) eX_61) rfl rfl ⟨Nat.le_of_ble_eq_true rfl, Nat.le_of_ble_eq_true rfl⟩ rfl hl.1 rfl (Nat.le_of_ble_eq_true rfl) dX3_chooseTraits_25 (fun H locs hI => ?_)
          have hr6 : r6 < 25 := lt_X3_sourceOf hc
          refine lv_astore (lv' := [(4, .ref (A r6)), (0, .ref (A 61)), (1, .int p1), (2, .int p2), (3, .int x1)]) hx hb dX3_chooseTraits_28 hl (by decide) rfl (fun ls hl => ?_)
          refine lv_aload_n hx hb dX3_chooseTraits_30 rfl (lv_at hl 1 rfl) ?_
          refine xg_get (C := RX3) (T := TX3) (M := 6) hx hb hown hG hI (by omega) eX_61 rfl inX3 1 (by decide) kf_X3_21 rfl dX3_chooseTraits_31 ?_
          refine lv_iload_n hx hb dX3_chooseTraits_34 rfl (lv_at hl 4 rfl) ?_
          refine lv_iload_n hx hb dX3_chooseTraits_35 rfl (lv_at hl 2 rfl) ?_
          refine lv_aload hx hb dX3_chooseTraits_36 (lv_at hl 0 rfl) ?_
          refine lv_iload_n hx hb dX3_chooseTraits_38 rfl (lv_at hl 4 rfl) ?_
          refine lv_iload_n hx hb dX3_chooseTraits_39 rfl (lv_at hl 2 rfl) ?_
          obtain ⟨r7, hc, hE⟩ := bd1_some hE
          refine xc_V1 (rest := [.int p1, .int x1, .ref (A 24)]) (Ct.toXr (j := r6) (by omega) (c_X4_trait (OKX (j := r6) (by omega)) hc)) mw_X4_trait km_X3_103 hx hb hml hown hG hI xA_of (wG_atE (by omega) (eX_O (j := r6) (by omega))) rfl rfl ⟨Nat.le_of_ble_eq_true rfl, Nat.le_of_ble_eq_true rfl⟩ rfl hl.1 rfl (Nat.le_of_ble_eq_true rfl) dX3_chooseTraits_40 (fun H locs hI => ?_)
          obtain ⟨mu8, hc, hE⟩ := bd1_some hE
          obtain ⟨ff, hf, hu⟩ := stO_some hc
          refine xc_V0 (rest := []) (Ct.toXw (j := 24) (by omega) hu (c_X4_put (OKX (j := 24) (by omega)) hf)) mw_X4_put km_X3_115 hx hb hml hown hG hI xA_of (wG_atE (by omega) (eX_O (j := 24) (by omega))) rfl rfl ⟨Nat.le_of_ble_eq_true rfl, Nat.le_of_ble_eq_true rfl⟩ rfl hl.1 rfl (Nat.le_of_ble_eq_true rfl) dX3_chooseTraits_43 (fun H locs hI => ?_)
          refine lv_aload_n hx hb dX3_chooseTraits_46 rfl (lv_at hl 1 rfl) ?_
          refine lv_iload_n hx hb dX3_chooseTraits_47 rfl (lv_at hl 4 rfl) ?_
          refine lv_iload_n hx hb dX3_chooseTraits_48 rfl (lv_at hl 2 rfl) ?_
          obtain ⟨r9, hc, hE⟩ := bd1_some hE
          refine xc_V1 (rest := []) (c_X3_isDisputed hc) mw_X3_isDisputed km_X3_118 hx hb hml hown hG hI xA_of (wG_atE (by omega) eX_61) rfl rfl ⟨Nat.le_of_ble_eq_true rfl, Nat.le_of_ble_eq_true rfl⟩ rfl hl.1 rfl (Nat.le_of_ble_eq_true rfl) dX3_chooseTraits_49 (fun H locs hI => ?_)
          refine lv_if_eq (tgt := 88) hx hb dX3_chooseTraits_52 (by decide) (fun c52 => ?_) (fun c52 => ?_)
          · rw [if_pos c52] at hE
            refine lv_iinc (v := x1 + 1) (lv' := [(3, .int (x1 + 1)), (4, .ref (A r6)), (0, .ref (A 61)), (1, .int p1), (2, .int p2)]) hx hb dX3_chooseTraits_88 hl (k := 4) rfl rfl (by decide) rfl (fun ls hl => ?_)
            refine lv_goto (tgt := 2) hx hb dX3_chooseTraits_91 (by decide) ?_
            exact ih2 _ _ _ _ _ hE hI (lv_sub hl [2, 3, 4, 0] rfl)
          · rw [if_neg c52] at hE
            refine lv_iload_n hx hb dX3_chooseTraits_55 rfl (lv_at hl 2 rfl) ?_
            obtain ⟨x10, hZ, hE⟩ := bd1_some hE
            have hJ75_10 : ∀ (H : Heap) (locs : List Loc) (ls : Array Slot), xI D (va_A (wX A cI cZ cD u) s.heap.size) s.heap (wX A cI cZ cD mu8) H locs → lv_has ls 6 [(0, .ref (A 61)), (1, .int p1), (2, .int p2), (3, .int x1)] → W p l e (rmOf 3 70) s m ([.ref (A 61), .int p1, .int p2] : List Value).toArray below meth c H locs 0 0 (xQ D (tyL cI cZ cD) below ([.ref (A 61), .int p1, .int p2] : List Value).toArray s (wX A cI cZ cD u) none (wX A cI cZ cD u1)) (F0 m 75 ls [.int x10]) := by
              intro H locs ls hI hl
              clear hZ
              refine lv_istore (lv' := [(5, .int x10), (0, .ref (A 61)), (1, .int p1), (2, .int p2), (3, .int x1)]) hx hb dX3_chooseTraits_75 hl (by decide) rfl (fun ls hl => ?_)
              refine lv_aload_n hx hb dX3_chooseTraits_77 rfl (lv_at hl 1 rfl) ?_
              refine xg_get (C := RX3) (T := TX3) (M := 6) hx hb hown hG hI (by omega) eX_61 rfl inX3 2 (by decide) kf_X3_30 rfl dX3_chooseTraits_78 ?_
              refine lv_iload_n hx hb dX3_chooseTraits_81 rfl (lv_at hl 3 rfl) ?_
              refine lv_iload_n hx hb dX3_chooseTraits_82 rfl (lv_at hl 4 rfl) ?_
              refine lv_iload hx hb dX3_chooseTraits_83 (lv_at hl 0 rfl) ?_
              obtain ⟨mu12, hc, hE⟩ := bd1_some hE
              refine xc_V0 (rest := []) (c_X6_tell (by omega) hc) mw_X6_tell km_X3_92 hx hb hml hown hG hI xA_of (wG_atE (by omega) (eX_T (t := 0) (by omega))) rfl rfl ⟨Nat.le_of_ble_eq_true rfl, Nat.le_of_ble_eq_true rfl⟩ rfl hl.1 rfl (Nat.le_of_ble_eq_true rfl) dX3_chooseTraits_85 (fun H locs hI => ?_)
              refine lv_iinc (v := x1 + 1) (lv' := [(3, .int (x1 + 1)), (5, .int x10), (0, .ref (A 61)), (1, .int p1), (2, .int p2)]) hx hb dX3_chooseTraits_88 hl (k := 4) rfl rfl (by decide) rfl (fun ls hl => ?_)
              refine lv_goto (tgt := 2) hx hb dX3_chooseTraits_91 (by decide) ?_
              exact ih2 _ _ _ _ _ hE hI (lv_sub hl [2, 3, 4, 0] rfl)
            replace hE := hZ
            clear hZ
            refine lv_if_ne (tgt := 74) hx hb dX3_chooseTraits_56 (by decide) (fun c56 => ?_) (fun c56 => ?_)
            · rw [if_neg c56] at hE
              refine lv_iload_n hx hb dX3_chooseTraits_74 rfl (lv_at hl 4 rfl) ?_
              obtain rfl := sm1 hE
              exact hJ75_10 _ _ _ hI (lv_sub hl [1, 2, 3, 4] rfl)
            · rw [if_pos c56] at hE
              refine lv_aload_n hx hb dX3_chooseTraits_59 rfl (lv_at hl 1 rfl) ?_
              refine xg_get (C := RX3) (T := TX3) (M := 6) hx hb hown hG hI (by omega) eX_61 rfl inX3 0 (by decide) kf_X3_12 rfl dX3_chooseTraits_60 ?_
              obtain ⟨r13, hc, hE⟩ := bd1_some hE
              refine xc_V1 (rest := []) (c_X0_otherSide (by omega) hc) mw_X0_otherSide km_X3_121 hx hb hml hown hG hI xA_of (wG_atE (by omega) (eX_D (d := 7) (by omega))) rfl rfl ⟨Nat.le_of_ble_eq_true rfl, Nat.le_of_ble_eq_true rfl⟩ rfl hl.1 rfl (Nat.le_of_ble_eq_true rfl) dX3_chooseTraits_63 (fun H locs hI => ?_)
              have hr13 : r13 < 25 := lt_X0_otherSide (by omega) hc
              refine lv_iload_n hx hb dX3_chooseTraits_66 rfl (lv_at hl 4 rfl) ?_
              refine lv_iconst (v := 0) hx hb dX3_chooseTraits_67 (by decide) ?_
              obtain ⟨r14, hc, hE⟩ := bd1_some hE
              refine xc_V1 (rest := []) (Ct.toXr (j := r13) (by omega) (c_X4_trait (OKX (j := r13) (by omega)) hc)) mw_X4_trait km_X3_103 hx hb hml hown hG hI xA_of (wG_atE (by omega) (eX_O (j := r13) (by omega))) rfl rfl ⟨Nat.le_of_ble_eq_true rfl, Nat.le_of_ble_eq_true rfl⟩ rfl hl.1 rfl (Nat.le_of_ble_eq_true rfl) dX3_chooseTraits_68 (fun H locs hI => ?_)
              refine lv_goto (tgt := 75) hx hb dX3_chooseTraits_71 (by decide) ?_
              obtain rfl := sm1 hE
              exact hJ75_10 _ _ _ hI (lv_sub hl [1, 2, 3, 4] rfl)
        · rw [if_pos c16] at hE
          refine lv_goto (tgt := 88) hx hb dX3_chooseTraits_19 (by decide) ?_
          refine lv_iinc (v := x1 + 1) (lv' := [(3, .int (x1 + 1)), (0, .ref (A 61)), (1, .int p1), (2, .int p2)]) hx hb dX3_chooseTraits_88 hl (k := 3) rfl rfl (by decide) rfl (fun ls hl => ?_)
          refine lv_goto (tgt := 2) hx hb dX3_chooseTraits_91 (by decide) ?_
          exact ih2 _ _ _ _ _ hE hI (lv_sub hl [1, 2, 3, 0] rfl)
  exact hL2 _ _ _ _ _ _ hE hI (lv_sub hl [1, 2, 3, 0] rfl)
def X3_nearest_L4 (u : Mem) : Nat → Int32 → Int32 → Option (Int32)
  | 0, _, _ => none
  | n4 + 1, x1, x2 =>
    (if 16 ≤ x2 then some 0 else (X4_holds (u 49) x1 : Option Bool).bind fun (r3 : Bool) => (if (b2i r3) = 0 then (X4_trait (u 46) x1 0 : Option Int32).bind fun (r4 : Int32) => X3_nearest_L4 u n4 r4 (x2 + 1) else some x1))
def X3_nearest (u : Mem) (p1 : Int32) : Option (Int32) :=
  X3_nearest_L4 u fu p1 0
set_option maxHeartbeats 4000000 in
set_option maxRecDepth 100000 in
theorem c_X3_nearest {l : Launch} {D : va_G} {A : Nat → Nat} {cI cZ cD : ClassId} {u : Mem} {p1 : Int32} {r : Int32}  (hE : X3_nearest u p1 = some (r)) : Ct l yX3_nearest cX3_nearest 4 (some .int) (rmOf 1 22) D (tyL cI cZ cD) [.ref (A 61), .int p1] (wX A cI cZ cD u) (some (.int r)) (wX A cI cZ cD u) := by
  refine Ct.ofW (by decide +kernel) (fun p e s m below meth c hC hI => ?_)
  obtain ⟨hx, hb, hml, hown, hr, hlk, hG⟩ := hC
  have hown : s.vm.findClass RX3 = some m.cls := hown
  have hl := lv_entry ([.ref (A 61), .int p1] : List Value) (n := 4) (Nat.le_of_ble_eq_true rfl)
  rw [lg_entry_eq]
  generalize (lg_sl ([.ref (A 61), .int p1] : List Value) ++ List.replicate (4 - (lg_sl ([.ref (A 61), .int p1] : List Value)).length) Slot.unset).toArray = ls at hl ⊢
  have hl : lv_has ls 4 [(0, .ref (A 61)), (1, .int p1)] := hl
  unfold X3_nearest at hE
  refine lv_iload_n hx hb dX3_nearest_0 rfl (lv_at hl 1 rfl) ?_
  refine lv_istore_n (lv' := [(2, .int p1), (0, .ref (A 61)), (1, .int p1)]) hx hb dX3_nearest_1 rfl hl (by decide) rfl (fun ls hl => ?_)
  refine lv_iconst (v := 0) hx hb dX3_nearest_2 (by decide) ?_
  refine lv_istore_n (lv' := [(3, .int 0), (2, .int p1), (0, .ref (A 61)), (1, .int p1)]) hx hb dX3_nearest_3 rfl hl (by decide) rfl (fun ls hl => ?_)
  have hL4 : ∀ (n4 : Nat) (x1 : Int32) (x2 : Int32) (H : Heap) (locs : List Loc) (ls : Array Slot), X3_nearest_L4 u n4 x1 x2 = some r → xI D (va_A (wX A cI cZ cD u) s.heap.size) s.heap (wX A cI cZ cD u) H locs → lv_has ls 4 [(0, .ref (A 61)), (2, .int x1), (3, .int x2)] → W p l e (rmOf 1 22) s m ([.ref (A 61), .int p1] : List Value).toArray below meth c H locs 0 0 (xQ D (tyL cI cZ cD) below ([.ref (A 61), .int p1] : List Value).toArray s (wX A cI cZ cD u) (some (.int r)) (wX A cI cZ cD u)) (F0 m 4 ls []) := by
    intro n4
    induction n4 with
    | zero =>
      intro x1 x2 H locs ls hE
      exact absurd hE (by simp [X3_nearest_L4])
    | succ n4 ih4 =>
      intro x1 x2 H locs ls hE hI hl
      rw [X3_nearest_L4] at hE
      refine lv_iload_n hx hb dX3_nearest_4 rfl (lv_at hl 2 rfl) ?_
      refine lv_bipush (v := 16) hx hb dX3_nearest_5 (by decide) ?_
      refine lv_icmp_ge (tgt := 42) hx hb dX3_nearest_7 (by decide) (fun c7 => ?_) (fun c7 => ?_)
      · rw [if_pos c7] at hE
        refine lv_iconst (v := 0) hx hb dX3_nearest_42 (by decide) ?_
        obtain rfl := sm1 hE
        exact xr_i hx hb hr hlk hG hI dX3_nearest_43
      · rw [if_neg c7] at hE
        refine lv_aload_n hx hb dX3_nearest_10 rfl (lv_at hl 0 rfl) ?_
        refine xg_get (C := RX3) (T := TX3) (M := 6) hx hb hown hG hI (by omega) eX_61 rfl inX3 1 (by decide) kf_X3_21 rfl dX3_nearest_11 ?_
        refine lv_iload_n hx hb dX3_nearest_14 rfl (lv_at hl 1 rfl) ?_
        obtain ⟨r3, hc, hE⟩ := bd1_some hE
        refine xc_V1 (rest := []) (Ct.toXr (j := 24) (by omega) (c_X4_holds (OKX (j := 24) (by omega)) hc)) mw_X4_holds km_X3_75 hx hb hml hown hG hI xA_of (wG_atE (by omega) (eX_O (j := 24) (by omega))) rfl rfl ⟨Nat.le_of_ble_eq_true rfl, Nat.le_of_ble_eq_true rfl⟩ rfl hl.1 rfl (Nat.le_of_ble_eq_true rfl) dX3_nearest_15 (fun H locs hI => ?_)
        refine lv_if_eq (tgt := 23) hx hb dX3_nearest_18 (by decide) (fun c18 => ?_) (fun c18 => ?_)
        · rw [if_pos c18] at hE
          refine lv_aload_n hx hb dX3_nearest_23 rfl (lv_at hl 0 rfl) ?_
          refine xg_get (C := RX3) (T := TX3) (M := 6) hx hb hown hG hI (by omega) eX_61 rfl inX3 0 (by decide) kf_X3_12 rfl dX3_nearest_24 ?_
          refine xg_getN (C := RX0) (T := TX0) (M := 5) hx hb hown hG hI (by omega) (eX_D (d := 7) (by omega)) rfl inX0 0 (by decide) kf_X3_82 rfl dX3_nearest_27 ?_
          refine lv_iload_n hx hb dX3_nearest_30 rfl (lv_at hl 1 rfl) ?_
          refine lv_iconst (v := 0) hx hb dX3_nearest_31 (by decide) ?_
          obtain ⟨r4, hc, hE⟩ := bd1_some hE
          refine xc_V1 (rest := []) (Ct.toXr (j := 21) (by omega) (c_X4_trait (OKX (j := 21) (by omega)) hc)) mw_X4_trait km_X3_103 hx hb hml hown hG hI xA_of (wG_atE (by omega) (eX_O (j := 21) (by omega))) rfl rfl ⟨Nat.le_of_ble_eq_true rfl, Nat.le_of_ble_eq_true rfl⟩ rfl hl.1 rfl (Nat.le_of_ble_eq_true rfl) dX3_nearest_32 (fun H locs hI => ?_)
          refine lv_istore_n (lv' := [(2, .int r4), (0, .ref (A 61)), (3, .int x2)]) hx hb dX3_nearest_35 rfl hl (by decide) rfl (fun ls hl => ?_)
          refine lv_iinc (v := x2 + 1) (lv' := [(3, .int (x2 + 1)), (2, .int r4), (0, .ref (A 61))]) hx hb dX3_nearest_36 hl (k := 2) rfl rfl (by decide) rfl (fun ls hl => ?_)
          refine lv_goto (tgt := 4) hx hb dX3_nearest_39 (by decide) ?_
          exact ih4 _ _ _ _ _ hE hI (lv_sub hl [2, 1, 0] rfl)
        · rw [if_neg c18] at hE
          refine lv_iload_n hx hb dX3_nearest_21 rfl (lv_at hl 1 rfl) ?_
          obtain rfl := sm1 hE
          exact xr_i hx hb hr hlk hG hI dX3_nearest_22
  exact hL4 _ _ _ _ _ _ hE hI (lv_sub hl [2, 1, 0] rfl)
def X3_rehang_L2 : Nat → Int32 → Mem → Option (Mem)
  | 0, _, _ => none
  | n2 + 1, x1, mu2 =>
    (if 16 ≤ x1 then some mu2 else (X4_trait (mu2 49) x1 0 : Option Int32).bind fun (r5 : Int32) => (X4_holds (mu2 49) x1 : Option Bool).bind fun (r6 : Bool) => (if (b2i r6) = 0 then X3_rehang_L2 n2 (x1 + 1) mu2 else (X4_holds (mu2 49) r5 : Option Bool).bind fun (r7 : Bool) => (if (b2i r7) = 0 then (X3_nearest mu2 r5 : Option Int32).bind fun (r8 : Int32) => (stO mu2 49 (X4_put (mu2 49) x1 0 r8) : Option Mem).bind fun (mu9 : Mem) => (X6_tell mu9 0 4 x1 r5 : Option Mem).bind fun (mu10 : Mem) => X3_rehang_L2 n2 (x1 + 1) mu10 else X3_rehang_L2 n2 (x1 + 1) mu2)))
def X3_rehang (u : Mem) : Option (Mem) :=
  (X3_rehang_L2 fu 1 u : Option Mem).bind fun (mu3 : Mem) => some mu3
set_option maxHeartbeats 4000000 in
set_option maxRecDepth 100000 in
theorem c_X3_rehang {l : Launch} {D : va_G} {A : Nat → Nat} {cI cZ cD : ClassId} {u u1 : Mem}  (hE : X3_rehang u = some (u1)) : Ct l yX3_rehang cX3_rehang 3 none (rmOf 2 45) D (tyL cI cZ cD) [.ref (A 61)] (wX A cI cZ cD u) none (wX A cI cZ cD u1) := by
  refine Ct.ofW (by decide +kernel) (fun p e s m below meth c hC hI => ?_)
  obtain ⟨hx, hb, hml, hown, hr, hlk, hG⟩ := hC
  have hown : s.vm.findClass RX3 = some m.cls := hown
  have hl := lv_entry ([.ref (A 61)] : List Value) (n := 3) (Nat.le_of_ble_eq_true rfl)
  rw [lg_entry_eq]
  generalize (lg_sl ([.ref (A 61)] : List Value) ++ List.replicate (3 - (lg_sl ([.ref (A 61)] : List Value)).length) Slot.unset).toArray = ls at hl ⊢
  have hl : lv_has ls 3 [(0, .ref (A 61))] := hl
  unfold X3_rehang at hE
  refine lv_iconst (v := 1) hx hb dX3_rehang_0 (by decide) ?_
  refine lv_istore_n (lv' := [(1, .int 1), (0, .ref (A 61))]) hx hb dX3_rehang_1 rfl hl (by decide) rfl (fun ls hl => ?_)
  obtain ⟨mu3, hZ, hE⟩ := bd1_some hE
  have hX2_3 : ∀ (H : Heap) (locs : List Loc) (ls : Array Slot), xI D (va_A (wX A cI cZ cD u) s.heap.size) s.heap (wX A cI cZ cD mu3) H locs → lv_has ls 3 [] → W p l e (rmOf 2 45) s m ([.ref (A 61)] : List Value).toArray below meth c H locs 0 0 (xQ D (tyL cI cZ cD) below ([.ref (A 61)] : List Value).toArray s (wX A cI cZ cD u) none (wX A cI cZ cD u1)) (F0 m 70 ls []) := by
    intro H locs ls hI hl
    clear hZ
    obtain rfl := sm1 hE
    exact xr_v hx hb hr hlk hG hI dX3_rehang_70
  replace hE := hZ
  clear hZ
  have hL2 : ∀ (n2 : Nat) (x1 : Int32) (mu2 : Mem) (H : Heap) (locs : List Loc) (ls : Array Slot), X3_rehang_L2 n2 x1 mu2 = some mu3 → xI D (va_A (wX A cI cZ cD u) s.heap.size) s.heap (wX A cI cZ cD mu2) H locs → lv_has ls 3 [(0, .ref (A 61)), (1, .int x1)] → W p l e (rmOf 2 45) s m ([.ref (A 61)] : List Value).toArray below meth c H locs 0 0 (xQ D (tyL cI cZ cD) below ([.ref (A 61)] : List Value).toArray s (wX A cI cZ cD u) none (wX A cI cZ cD u1)) (F0 m 2 ls []) := by
    intro n2
    induction n2 with
    | zero =>
      intro x1 mu2 H locs ls hE
      exact absurd hE (by simp [X3_rehang_L2])
    | succ n2 ih2 =>
      intro x1 mu2 H locs ls hE hI hl
      rw [X3_rehang_L2] at hE
      refine lv_iload_n hx hb dX3_rehang_2 rfl (lv_at hl 1 rfl) ?_
      refine lv_bipush (v := 16) hx hb dX3_rehang_3 (by decide) ?_
      refine lv_icmp_ge (tgt := 70) hx hb dX3_rehang_5 (by decide) (fun c5 => ?_) (fun c5 => ?_)
      · rw [if_pos c5] at hE
        obtain rfl := sm1 hE
        exact hX2_3 _ _ _ hI (lv_sub hl [] rfl)
      · rw [if_neg c5] at hE
        refine lv_aload_n hx hb dX3_rehang_8 rfl (lv_at hl 0 rfl) ?_
        refine xg_get (C := RX3) (T := TX3) (M := 6) hx hb hown hG hI (by omega) eX_61 rfl inX3 1 (by decide) kf_X3_21 rfl dX3_rehang_9 ?_
        refine lv_iload_n hx hb dX3_rehang_12 rfl (lv_at hl 1 rfl) ?_
        refine lv_iconst (v := 0) hx hb dX3_rehang_13 (by decide) ?_
        obtain ⟨r5, hc, hE⟩ := bd1_some hE
        refine xc_V1 (rest := []) (Ct.toXr (j := 24) (by omega) (c_X4_trait (OKX (j := 24) (by omega)) hc)) mw_X4_trait km_X3_103 hx hb hml hown hG hI xA_of (wG_atE (by omega) (eX_O (j := 24) (by omega))) rfl rfl ⟨Nat.le_of_ble_eq_true rfl, Nat.le_of_ble_eq_true rfl⟩ rfl hl.1 rfl (Nat.le_of_ble_eq_true rfl) dX3_rehang_14 (fun H locs hI => ?_)
        refine lv_istore_n (lv' := [(2, .int r5), (0, .ref (A 61)), (1, .int x1)]) hx hb dX3_rehang_17 rfl hl (by decide) rfl (fun ls hl => ?_)
        refine lv_aload_n hx hb dX3_rehang_18 rfl (lv_at hl 1 rfl) ?_
        refine xg_get (C := RX3) (T := TX3) (M := 6) hx hb hown hG hI (by omega) eX_61 rfl inX3 1 (by decide) kf_X3_21 rfl dX3_rehang_19 ?_
        refine lv_iload_n hx hb dX3_rehang_22 rfl (lv_at hl 2 rfl) ?_
        obtain ⟨r6, hc, hE⟩ := bd1_some hE
        refine xc_V1 (rest := []) (Ct.toXr (j := 24) (by omega) (c_X4_holds (OKX (j := 24) (by omega)) hc)) mw_X4_holds km_X3_75 hx hb hml hown hG hI xA_of (wG_atE (by omega) (eX_O (j := 24) (by omega))) rfl rfl ⟨Nat.le_of_ble_eq_true rfl, Nat.le_of_ble_eq_true rfl⟩ rfl hl.1 rfl (Nat.le_of_ble_eq_true rfl) dX3_rehang_23 (fun H locs hI => ?_)
        refine lv_if_eq (tgt := 64) hx hb dX3_rehang_26 (by decide) (fun c26 => ?_) (fun c26 => ?_)
        · rw [if_pos c26] at hE
          refine lv_iinc (v := x1 + 1) (lv' := [(1, .int (x1 + 1)), (2, .int r5), (0, .ref (A 61))]) hx hb dX3_rehang_64 hl (k := 2) rfl rfl (by decide) rfl (fun ls hl => ?_)
          refine lv_goto (tgt := 2) hx hb dX3_rehang_67 (by decide) ?_
          exact ih2 _ _ _ _ _ hE hI (lv_sub hl [2, 0] rfl)
        · rw [if_neg c26] at hE
          refine lv_aload_n hx hb dX3_rehang_29 rfl (lv_at hl 1 rfl) ?_
          refine xg_get (C := RX3) (T := TX3) (M := 6) hx hb hown hG hI (by omega) eX_61 rfl inX3 1 (by decide) kf_X3_21 rfl dX3_rehang_30 ?_
          refine lv_iload_n hx hb dX3_rehang_33 rfl (lv_at hl 0 rfl) ?_
          obtain ⟨r7, hc, hE⟩ := bd1_some hE
          refine xc_V1 (rest := []) (Ct.toXr (j := 24) (by omega) (c_X4_holds (OKX (j := 24) (by omega)) hc)) mw_X4_holds km_X3_75 hx hb hml hown hG hI xA_of (wG_atE (by omega) (eX_O (j := 24) (by omega))) rfl rfl ⟨Nat.le_of_ble_eq_true rfl, Nat.le_of_ble_eq_true rfl⟩ rfl hl.1 rfl (Nat.le_of_ble_eq_true rfl) dX3_rehang_34 (fun H locs hI => ?_)
          refine lv_if_ne (tgt := 64) hx hb dX3_rehang_37 (by decide) (fun c37 => ?_) (fun c37 => ?_)
          · rw [if_neg c37] at hE
            refine lv_iinc (v := x1 + 1) (lv' := [(1, .int (x1 + 1)), (2, .int r5), (0, .ref (A 61))]) hx hb dX3_rehang_64 hl (k := 2) rfl rfl (by decide) rfl (fun ls hl => ?_)
            refine lv_goto (tgt := 2) hx hb dX3_rehang_67 (by decide) ?_
            exact ih2 _ _ _ _ _ hE hI (lv_sub hl [2, 0] rfl)
          · rw [if_pos c37] at hE
            refine lv_aload_n hx hb dX3_rehang_40 rfl (lv_at hl 1 rfl) ?_
            refine xg_get (C := RX3) (T := TX3) (M := 6) hx hb hown hG hI (by omega) eX_61 rfl inX3 1 (by decide) kf_X3_21 rfl dX3_rehang_41 ?_
            refine lv_iload_n hx hb dX3_rehang_44 rfl (lv_at hl 2 rfl) ?_
            refine lv_iconst (v := 0) hx hb dX3_rehang_45 (by decide) ?_
            refine lv_aload_n hx hb dX3_rehang_46 rfl (lv_at hl 1 rfl) ?_
            refine lv_iload_n hx hb dX3_rehang_47 rfl (lv_at hl 0 rfl) ?_
            obtain ⟨r8, hc, hE⟩ := bd1_some hE
            refine xc_V1 (rest := [.int 0, .int x1, .ref (A 24)]) (c_X3_nearest hc) mw_X3_nearest km_X3_128 hx hb hml hown hG hI xA_of (wG_atE (by omega) eX_61) rfl rfl ⟨Nat.le_of_ble_eq_true rfl, Nat.le_of_ble_eq_true rfl⟩ rfl hl.1 rfl (Nat.le_of_ble_eq_true rfl) dX3_rehang_48 (fun H locs hI => ?_)
            obtain ⟨mu9, hc, hE⟩ := bd1_some hE
            obtain ⟨ff, hf, hu⟩ := stO_some hc
            refine xc_V0 (rest := []) (Ct.toXw (j := 24) (by omega) hu (c_X4_put (OKX (j := 24) (by omega)) hf)) mw_X4_put km_X3_115 hx hb hml hown hG hI xA_of (wG_atE (by omega) (eX_O (j := 24) (by omega))) rfl rfl ⟨Nat.le_of_ble_eq_true rfl, Nat.le_of_ble_eq_true rfl⟩ rfl hl.1 rfl (Nat.le_of_ble_eq_true rfl) dX3_rehang_51 (fun H locs hI => ?_)
            refine lv_aload_n hx hb dX3_rehang_54 rfl (lv_at hl 1 rfl) ?_
            refine xg_get (C := RX3) (T := TX3) (M := 6) hx hb hown hG hI (by omega) eX_61 rfl inX3 2 (by decide) kf_X3_30 rfl dX3_rehang_55 ?_
            refine lv_iconst (v := 4) hx hb dX3_rehang_58 (by decide) ?_
            refine lv_iload_n hx hb dX3_rehang_59 rfl (lv_at hl 2 rfl) ?_
            refine lv_iload_n hx hb dX3_rehang_60 rfl (lv_at hl 0 rfl) ?_
            obtain ⟨mu10, hc, hE⟩ := bd1_some hE
            refine xc_V0 (rest := []) (c_X6_tell (by omega) hc) mw_X6_tell km_X3_92 hx hb hml hown hG hI xA_of (wG_atE (by omega) (eX_T (t := 0) (by omega))) rfl rfl ⟨Nat.le_of_ble_eq_true rfl, Nat.le_of_ble_eq_true rfl⟩ rfl hl.1 rfl (Nat.le_of_ble_eq_true rfl) dX3_rehang_61 (fun H locs hI => ?_)
            refine lv_iinc (v := x1 + 1) (lv' := [(1, .int (x1 + 1)), (2, .int r5), (0, .ref (A 61))]) hx hb dX3_rehang_64 hl (k := 2) rfl rfl (by decide) rfl (fun ls hl => ?_)
            refine lv_goto (tgt := 2) hx hb dX3_rehang_67 (by decide) ?_
            exact ih2 _ _ _ _ _ hE hI (lv_sub hl [2, 0] rfl)
  exact hL2 _ _ _ _ _ _ hE hI (lv_sub hl [1, 0] rfl)
def X3_leastInRing_L2 (u : Mem) : Nat → Int32 → Option (Int32)
  | 0, _ => none
  | n2 + 1, x1 =>
    (if 16 ≤ x1 then some (-1) else (X4_holds (u 49) x1 : Option Bool).bind fun (r2 : Bool) => (if (b2i r2) = 0 then X3_leastInRing_L2 u n2 (x1 + 1) else (X4_trait (u 49) x1 0 : Option Int32).bind fun (r3 : Int32) => (X4_isBelow (u 49) r3 x1 : Option Bool).bind fun (r4 : Bool) => (if (b2i r4) = 0 then X3_leastInRing_L2 u n2 (x1 + 1) else some x1)))
def X3_leastInRing (u : Mem) : Option (Int32) :=
  X3_leastInRing_L2 u fu 1
set_option maxHeartbeats 4000000 in
set_option maxRecDepth 100000 in
theorem c_X3_leastInRing {l : Launch} {D : va_G} {A : Nat → Nat} {cI cZ cD : ClassId} {u : Mem} {r : Int32}  (hE : X3_leastInRing u = some (r)) : Ct l yX3_leastInRing cX3_leastInRing 2 (some .int) (rmOf 2 46) D (tyL cI cZ cD) [.ref (A 61)] (wX A cI cZ cD u) (some (.int r)) (wX A cI cZ cD u) := by
  refine Ct.ofW (by decide +kernel) (fun p e s m below meth c hC hI => ?_)
  obtain ⟨hx, hb, hml, hown, hr, hlk, hG⟩ := hC
  have hown : s.vm.findClass RX3 = some m.cls := hown
  have hl := lv_entry ([.ref (A 61)] : List Value) (n := 2) (Nat.le_of_ble_eq_true rfl)
  rw [lg_entry_eq]
  generalize (lg_sl ([.ref (A 61)] : List Value) ++ List.replicate (2 - (lg_sl ([.ref (A 61)] : List Value)).length) Slot.unset).toArray = ls at hl ⊢
  have hl : lv_has ls 2 [(0, .ref (A 61))] := hl
  unfold X3_leastInRing at hE
  refine lv_iconst (v := 1) hx hb dX3_leastInRing_0 (by decide) ?_
  refine lv_istore_n (lv' := [(1, .int 1), (0, .ref (A 61))]) hx hb dX3_leastInRing_1 rfl hl (by decide) rfl (fun ls hl => ?_)
  have hL2 : ∀ (n2 : Nat) (x1 : Int32) (H : Heap) (locs : List Loc) (ls : Array Slot), X3_leastInRing_L2 u n2 x1 = some r → xI D (va_A (wX A cI cZ cD u) s.heap.size) s.heap (wX A cI cZ cD u) H locs → lv_has ls 2 [(0, .ref (A 61)), (1, .int x1)] → W p l e (rmOf 2 46) s m ([.ref (A 61)] : List Value).toArray below meth c H locs 0 0 (xQ D (tyL cI cZ cD) below ([.ref (A 61)] : List Value).toArray s (wX A cI cZ cD u) (some (.int r)) (wX A cI cZ cD u)) (F0 m 2 ls []) := by
    intro n2
    induction n2 with
    | zero =>
      intro x1 H locs ls hE
      exact absurd hE (by simp [X3_leastInRing_L2])
    | succ n2 ih2 =>
      intro x1 H locs ls hE hI hl
      rw [X3_leastInRing_L2] at hE
      refine lv_iload_n hx hb dX3_leastInRing_2 rfl (lv_at hl 1 rfl) ?_
      refine lv_bipush (v := 16) hx hb dX3_leastInRing_3 (by decide) ?_
      refine lv_icmp_ge (tgt := 47) hx hb dX3_leastInRing_5 (by decide) (fun c5 => ?_) (fun c5 => ?_)
      · rw [if_pos c5] at hE
        refine lv_iconst (v := (-1)) hx hb dX3_leastInRing_47 (by decide) ?_
        obtain rfl := sm1 hE
        exact xr_i hx hb hr hlk hG hI dX3_leastInRing_48
      · rw [if_neg c5] at hE
        refine lv_aload_n hx hb dX3_leastInRing_8 rfl (lv_at hl 0 rfl) ?_
        refine xg_get (C := RX3) (T := TX3) (M := 6) hx hb hown hG hI (by omega) eX_61 rfl inX3 1 (by decide) kf_X3_21 rfl dX3_leastInRing_9 ?_
        refine lv_iload_n hx hb dX3_leastInRing_12 rfl (lv_at hl 1 rfl) ?_
        obtain ⟨r2, hc, hE⟩ := bd1_some hE
        refine xc_V1 (rest := []) (Ct.toXr (j := 24) (by omega) (c_X4_holds (OKX (j := 24) (by omega)) hc)) mw_X4_holds km_X3_75 hx hb hml hown hG hI xA_of (wG_atE (by omega) (eX_O (j := 24) (by omega))) rfl rfl ⟨Nat.le_of_ble_eq_true rfl, Nat.le_of_ble_eq_true rfl⟩ rfl hl.1 rfl (Nat.le_of_ble_eq_true rfl) dX3_leastInRing_13 (fun H locs hI => ?_)
        refine lv_if_eq (tgt := 41) hx hb dX3_leastInRing_16 (by decide) (fun c16 => ?_) (fun c16 => ?_)
        · rw [if_pos c16] at hE
          refine lv_iinc (v := x1 + 1) (lv' := [(1, .int (x1 + 1)), (0, .ref (A 61))]) hx hb dX3_leastInRing_41 hl (k := 1) rfl rfl (by decide) rfl (fun ls hl => ?_)
          refine lv_goto (tgt := 2) hx hb dX3_leastInRing_44 (by decide) ?_
          exact ih2 _ _ _ _ hE hI (lv_sub hl [1, 0] rfl)
        · rw [if_neg c16] at hE
          refine lv_aload_n hx hb dX3_leastInRing_19 rfl (lv_at hl 0 rfl) ?_
          refine xg_get (C := RX3) (T := TX3) (M := 6) hx hb hown hG hI (by omega) eX_61 rfl inX3 1 (by decide) kf_X3_21 rfl dX3_leastInRing_20 ?_
          refine lv_aload_n hx hb dX3_leastInRing_23 rfl (lv_at hl 0 rfl) ?_
          refine xg_get (C := RX3) (T := TX3) (M := 6) hx hb hown hG hI (by omega) eX_61 rfl inX3 1 (by decide) kf_X3_21 rfl dX3_leastInRing_24 ?_
          refine lv_iload_n hx hb dX3_leastInRing_27 rfl (lv_at hl 1 rfl) ?_
          refine lv_iconst (v := 0) hx hb dX3_leastInRing_28 (by decide) ?_
          obtain ⟨r3, hc, hE⟩ := bd1_some hE
          refine xc_V1 (rest := [.ref (A 24)]) (Ct.toXr (j := 24) (by omega) (c_X4_trait (OKX (j := 24) (by omega)) hc)) mw_X4_trait km_X3_103 hx hb hml hown hG hI xA_of (wG_atE (by omega) (eX_O (j := 24) (by omega))) rfl rfl ⟨Nat.le_of_ble_eq_true rfl, Nat.le_of_ble_eq_true rfl⟩ rfl hl.1 rfl (Nat.le_of_ble_eq_true rfl) dX3_leastInRing_29 (fun H locs hI => ?_)
          refine lv_iload_n hx hb dX3_leastInRing_32 rfl (lv_at hl 1 rfl) ?_
          obtain ⟨r4, hc, hE⟩ := bd1_some hE
          refine xc_V1 (rest := []) (Ct.toXr (j := 24) (by omega) (c_X4_isBelow (OKX (j := 24) (by omega)) hc)) mw_X4_isBelow km_X3_145 hx hb hml hown hG hI xA_of (wG_atE (by omega) (eX_O (j := 24) (by omega))) rfl rfl ⟨Nat.le_of_ble_eq_true rfl, Nat.le_of_ble_eq_true rfl⟩ rfl hl.1 rfl (Nat.le_of_ble_eq_true rfl) dX3_leastInRing_33 (fun H locs hI => ?_)
          refine lv_if_eq (tgt := 41) hx hb dX3_leastInRing_36 (by decide) (fun c36 => ?_) (fun c36 => ?_)
          · rw [if_pos c36] at hE
            refine lv_iinc (v := x1 + 1) (lv' := [(1, .int (x1 + 1)), (0, .ref (A 61))]) hx hb dX3_leastInRing_41 hl (k := 1) rfl rfl (by decide) rfl (fun ls hl => ?_)
            refine lv_goto (tgt := 2) hx hb dX3_leastInRing_44 (by decide) ?_
            exact ih2 _ _ _ _ hE hI (lv_sub hl [1, 0] rfl)
          · rw [if_neg c36] at hE
            refine lv_iload_n hx hb dX3_leastInRing_39 rfl (lv_at hl 1 rfl) ?_
            obtain rfl := sm1 hE
            exact xr_i hx hb hr hlk hG hI dX3_leastInRing_40
  exact hL2 _ _ _ _ _ hE hI (lv_sub hl [1, 0] rfl)
def X3_isMoveOfOther (u : Mem) (p1 : Int32) : Option (Bool) :=
  (X0_otherSide u 7 : Option Nat).bind fun (r1 : Nat) => (X4_holds (u 46) p1 : Option Bool).bind fun (r2 : Bool) => (if (b2i r2) = 0 then some false else (X4_holds (u (25 + r1)) p1 : Option Bool).bind fun (r3 : Bool) => (if (b2i r3) = 0 then some false else (X4_trait (u 49) p1 0 : Option Int32).bind fun (r4 : Int32) => (X4_trait (u (25 + r1)) p1 0 : Option Int32).bind fun (r5 : Int32) => (if r4 = r5 then (X4_trait (u 46) p1 0 : Option Int32).bind fun (r6 : Int32) => (if r4 = r6 then some false else some true) else some false)))
set_option maxHeartbeats 4000000 in
set_option maxRecDepth 100000 in
theorem c_X3_isMoveOfOther {l : Launch} {D : va_G} {A : Nat → Nat} {cI cZ cD : ClassId} {u : Mem} {p1 : Int32} {r : Bool}  (hE : X3_isMoveOfOther u p1 = some (r)) : Ct l yX3_isMoveOfOther cX3_isMoveOfOther 4 (some .boolean) (rmOf 1 22) D (tyL cI cZ cD) [.ref (A 61), .int p1] (wX A cI cZ cD u) (some (.int (b2i r))) (wX A cI cZ cD u) := by
  refine Ct.ofW (by decide +kernel) (fun p e s m below meth c hC hI => ?_)
  obtain ⟨hx, hb, hml, hown, hr, hlk, hG⟩ := hC
  have hown : s.vm.findClass RX3 = some m.cls := hown
  have hl := lv_entry ([.ref (A 61), .int p1] : List Value) (n := 4) (Nat.le_of_ble_eq_true rfl)
  rw [lg_entry_eq]
  generalize (lg_sl ([.ref (A 61), .int p1] : List Value) ++ List.replicate (4 - (lg_sl ([.ref (A 61), .int p1] : List Value)).length) Slot.unset).toArray = ls at hl ⊢
  have hl : lv_has ls 4 [(0, .ref (A 61)), (1, .int p1)] := hl
  unfold X3_isMoveOfOther at hE
  refine lv_aload_n hx hb dX3_isMoveOfOther_0 rfl (lv_at hl 0 rfl) ?_
  refine xg_get (C := RX3) (T := TX3) (M := 6) hx hb hown hG hI (by omega) eX_61 rfl inX3 0 (by decide) kf_X3_12 rfl dX3_isMoveOfOther_1 ?_
  obtain ⟨r1, hc, hE⟩ := bd1_some hE
  refine xc_V1 (rest := []) (c_X0_otherSide (by omega) hc) mw_X0_otherSide km_X3_121 hx hb hml hown hG hI xA_of (wG_atE (by omega) (eX_D (d := 7) (by omega))) rfl rfl ⟨Nat.le_of_ble_eq_true rfl, Nat.le_of_ble_eq_true rfl⟩ rfl hl.1 rfl (Nat.le_of_ble_eq_true rfl) dX3_isMoveOfOther_4 (fun H locs hI => ?_)
  have hr1 : r1 < 25 := lt_X0_otherSide (by omega) hc
  refine lv_astore_n (lv' := [(2, .ref (A r1)), (0, .ref (A 61)), (1, .int p1)]) hx hb dX3_isMoveOfOther_7 rfl hl (by decide) rfl (fun ls hl => ?_)
  refine lv_aload_n hx hb dX3_isMoveOfOther_8 rfl (lv_at hl 1 rfl) ?_
  refine xg_get (C := RX3) (T := TX3) (M := 6) hx hb hown hG hI (by omega) eX_61 rfl inX3 0 (by decide) kf_X3_12 rfl dX3_isMoveOfOther_9 ?_
  refine xg_getN (C := RX0) (T := TX0) (M := 5) hx hb hown hG hI (by omega) (eX_D (d := 7) (by omega)) rfl inX0 0 (by decide) kf_X3_82 rfl dX3_isMoveOfOther_12 ?_
  refine lv_iload_n hx hb dX3_isMoveOfOther_15 rfl (lv_at hl 2 rfl) ?_
  obtain ⟨r2, hc, hE⟩ := bd1_some hE
  refine xc_V1 (rest := []) (Ct.toXr (j := 21) (by omega) (c_X4_holds (OKX (j := 21) (by omega)) hc)) mw_X4_holds km_X3_75 hx hb hml hown hG hI xA_of (wG_atE (by omega) (eX_O (j := 21) (by omega))) rfl rfl ⟨Nat.le_of_ble_eq_true rfl, Nat.le_of_ble_eq_true rfl⟩ rfl hl.1 rfl (Nat.le_of_ble_eq_true rfl) dX3_isMoveOfOther_16 (fun H locs hI => ?_)
  refine lv_if_eq (tgt := 30) hx hb dX3_isMoveOfOther_19 (by decide) (fun c19 => ?_) (fun c19 => ?_)
  · rw [if_pos c19] at hE
    refine lv_iconst (v := 0) hx hb dX3_isMoveOfOther_30 (by decide) ?_
    obtain rfl := sm1 hE
    exact xr_z rfl hx hb hr hlk hG hI dX3_isMoveOfOther_31
  · rw [if_neg c19] at hE
    refine lv_aload_n hx hb dX3_isMoveOfOther_22 rfl (lv_at hl 0 rfl) ?_
    refine lv_iload_n hx hb dX3_isMoveOfOther_23 rfl (lv_at hl 2 rfl) ?_
    obtain ⟨r3, hc, hE⟩ := bd1_some hE
    refine xc_V1 (rest := []) (Ct.toXr (j := r1) (by omega) (c_X4_holds (OKX (j := r1) (by omega)) hc)) mw_X4_holds km_X3_75 hx hb hml hown hG hI xA_of (wG_atE (by omega) (eX_O (j := r1) (by omega))) rfl rfl ⟨Nat.le_of_ble_eq_true rfl, Nat.le_of_ble_eq_true rfl⟩ rfl hl.1 rfl (Nat.le_of_ble_eq_true rfl) dX3_isMoveOfOther_24 (fun H locs hI => ?_)
    refine lv_if_ne (tgt := 32) hx hb dX3_isMoveOfOther_27 (by decide) (fun c27 => ?_) (fun c27 => ?_)
    · rw [if_neg c27] at hE
      refine lv_aload_n hx hb dX3_isMoveOfOther_32 rfl (lv_at hl 1 rfl) ?_
      refine xg_get (C := RX3) (T := TX3) (M := 6) hx hb hown hG hI (by omega) eX_61 rfl inX3 1 (by decide) kf_X3_21 rfl dX3_isMoveOfOther_33 ?_
      refine lv_iload_n hx hb dX3_isMoveOfOther_36 rfl (lv_at hl 2 rfl) ?_
      refine lv_iconst (v := 0) hx hb dX3_isMoveOfOther_37 (by decide) ?_
      obtain ⟨r4, hc, hE⟩ := bd1_some hE
      refine xc_V1 (rest := []) (Ct.toXr (j := 24) (by omega) (c_X4_trait (OKX (j := 24) (by omega)) hc)) mw_X4_trait km_X3_103 hx hb hml hown hG hI xA_of (wG_atE (by omega) (eX_O (j := 24) (by omega))) rfl rfl ⟨Nat.le_of_ble_eq_true rfl, Nat.le_of_ble_eq_true rfl⟩ rfl hl.1 rfl (Nat.le_of_ble_eq_true rfl) dX3_isMoveOfOther_38 (fun H locs hI => ?_)
      refine lv_istore_n (lv' := [(3, .int r4), (2, .ref (A r1)), (0, .ref (A 61)), (1, .int p1)]) hx hb dX3_isMoveOfOther_41 rfl hl (by decide) rfl (fun ls hl => ?_)
      refine lv_iload_n hx hb dX3_isMoveOfOther_42 rfl (lv_at hl 0 rfl) ?_
      refine lv_aload_n hx hb dX3_isMoveOfOther_43 rfl (lv_at hl 1 rfl) ?_
      refine lv_iload_n hx hb dX3_isMoveOfOther_44 rfl (lv_at hl 3 rfl) ?_
      refine lv_iconst (v := 0) hx hb dX3_isMoveOfOther_45 (by decide) ?_
      obtain ⟨r5, hc, hE⟩ := bd1_some hE
      refine xc_V1 (rest := [.int r4]) (Ct.toXr (j := r1) (by omega) (c_X4_trait (OKX (j := r1) (by omega)) hc)) mw_X4_trait km_X3_103 hx hb hml hown hG hI xA_of (wG_atE (by omega) (eX_O (j := r1) (by omega))) rfl rfl ⟨Nat.le_of_ble_eq_true rfl, Nat.le_of_ble_eq_true rfl⟩ rfl hl.1 rfl (Nat.le_of_ble_eq_true rfl) dX3_isMoveOfOther_46 (fun H locs hI => ?_)
      refine lv_icmp_ne (tgt := 72) hx hb dX3_isMoveOfOther_49 (by decide) (fun c49 => ?_) (fun c49 => ?_)
      · rw [if_neg c49] at hE
        refine lv_iconst (v := 0) hx hb dX3_isMoveOfOther_72 (by decide) ?_
        obtain rfl := sm1 hE
        exact xr_z rfl hx hb hr hlk hG hI dX3_isMoveOfOther_73
      · rw [if_pos c49] at hE
        refine lv_iload_n hx hb dX3_isMoveOfOther_52 rfl (lv_at hl 0 rfl) ?_
        refine lv_aload_n hx hb dX3_isMoveOfOther_53 rfl (lv_at hl 2 rfl) ?_
        refine xg_get (C := RX3) (T := TX3) (M := 6) hx hb hown hG hI (by omega) eX_61 rfl inX3 0 (by decide) kf_X3_12 rfl dX3_isMoveOfOther_54 ?_
        refine xg_getN (C := RX0) (T := TX0) (M := 5) hx hb hown hG hI (by omega) (eX_D (d := 7) (by omega)) rfl inX0 0 (by decide) kf_X3_82 rfl dX3_isMoveOfOther_57 ?_
        refine lv_iload_n hx hb dX3_isMoveOfOther_60 rfl (lv_at hl 3 rfl) ?_
        refine lv_iconst (v := 0) hx hb dX3_isMoveOfOther_61 (by decide) ?_
        obtain ⟨r6, hc, hE⟩ := bd1_some hE
        refine xc_V1 (rest := [.int r4]) (Ct.toXr (j := 21) (by omega) (c_X4_trait (OKX (j := 21) (by omega)) hc)) mw_X4_trait km_X3_103 hx hb hml hown hG hI xA_of (wG_atE (by omega) (eX_O (j := 21) (by omega))) rfl rfl ⟨Nat.le_of_ble_eq_true rfl, Nat.le_of_ble_eq_true rfl⟩ rfl hl.1 rfl (Nat.le_of_ble_eq_true rfl) dX3_isMoveOfOther_62 (fun H locs hI => ?_)
        refine lv_icmp_eq (tgt := 72) hx hb dX3_isMoveOfOther_65 (by decide) (fun c65 => ?_) (fun c65 => ?_)
        · rw [if_pos c65] at hE
          refine lv_iconst (v := 0) hx hb dX3_isMoveOfOther_72 (by decide) ?_
          obtain rfl := sm1 hE
          exact xr_z rfl hx hb hr hlk hG hI dX3_isMoveOfOther_73
        · rw [if_neg c65] at hE
          refine lv_iconst (v := 1) hx hb dX3_isMoveOfOther_68 (by decide) ?_
          refine lv_goto (tgt := 73) hx hb dX3_isMoveOfOther_69 (by decide) ?_
          obtain rfl := sm1 hE
          exact xr_z rfl hx hb hr hlk hG hI dX3_isMoveOfOther_73
    · rw [if_pos c27] at hE
      refine lv_iconst (v := 0) hx hb dX3_isMoveOfOther_30 (by decide) ?_
      obtain rfl := sm1 hE
      exact xr_z rfl hx hb hr hlk hG hI dX3_isMoveOfOther_31
def X3_leastToPutBack_L2 (p1 : Int32) (u : Mem) : Nat → Int32 → Option (Int32)
  | 0, _ => none
  | n2 + 1, x1 =>
    (if 16 ≤ x1 then some (-1) else (X4_isBelow (u 49) p1 x1 : Option Bool).bind fun (r2 : Bool) => (if (b2i r2) = 0 then X3_leastToPutBack_L2 p1 u n2 (x1 + 1) else (rd 16 (u 62) x1).bind fun v3 => (if v3 = 0 then (X3_isMoveOfOther u x1 : Option Bool).bind fun (r4 : Bool) => (if (b2i r4) = 0 then X3_leastToPutBack_L2 p1 u n2 (x1 + 1) else some x1) else X3_leastToPutBack_L2 p1 u n2 (x1 + 1))))
def X3_leastToPutBack (u : Mem) (p1 : Int32) : Option (Int32) :=
  X3_leastToPutBack_L2 p1 u fu 1
set_option maxHeartbeats 4000000 in
set_option maxRecDepth 100000 in
theorem c_X3_leastToPutBack {l : Launch} {D : va_G} {A : Nat → Nat} {cI cZ cD : ClassId} {u : Mem} {p1 : Int32} {r : Int32}  (hE : X3_leastToPutBack u p1 = some (r)) : Ct l yX3_leastToPutBack cX3_leastToPutBack 3 (some .int) (rmOf 2 46) D (tyL cI cZ cD) [.ref (A 61), .int p1] (wX A cI cZ cD u) (some (.int r)) (wX A cI cZ cD u) := by
  refine Ct.ofW (by decide +kernel) (fun p e s m below meth c hC hI => ?_)
  obtain ⟨hx, hb, hml, hown, hr, hlk, hG⟩ := hC
  have hown : s.vm.findClass RX3 = some m.cls := hown
  have hl := lv_entry ([.ref (A 61), .int p1] : List Value) (n := 3) (Nat.le_of_ble_eq_true rfl)
  rw [lg_entry_eq]
  generalize (lg_sl ([.ref (A 61), .int p1] : List Value) ++ List.replicate (3 - (lg_sl ([.ref (A 61), .int p1] : List Value)).length) Slot.unset).toArray = ls at hl ⊢
  have hl : lv_has ls 3 [(0, .ref (A 61)), (1, .int p1)] := hl
  unfold X3_leastToPutBack at hE
  refine lv_iconst (v := 1) hx hb dX3_leastToPutBack_0 (by decide) ?_
  refine lv_istore_n (lv' := [(2, .int 1), (0, .ref (A 61)), (1, .int p1)]) hx hb dX3_leastToPutBack_1 rfl hl (by decide) rfl (fun ls hl => ?_)
  have hL2 : ∀ (n2 : Nat) (x1 : Int32) (H : Heap) (locs : List Loc) (ls : Array Slot), X3_leastToPutBack_L2 p1 u n2 x1 = some r → xI D (va_A (wX A cI cZ cD u) s.heap.size) s.heap (wX A cI cZ cD u) H locs → lv_has ls 3 [(0, .ref (A 61)), (1, .int p1), (2, .int x1)] → W p l e (rmOf 2 46) s m ([.ref (A 61), .int p1] : List Value).toArray below meth c H locs 0 0 (xQ D (tyL cI cZ cD) below ([.ref (A 61), .int p1] : List Value).toArray s (wX A cI cZ cD u) (some (.int r)) (wX A cI cZ cD u)) (F0 m 2 ls []) := by
    intro n2
    induction n2 with
    | zero =>
      intro x1 H locs ls hE
      exact absurd hE (by simp [X3_leastToPutBack_L2])
    | succ n2 ih2 =>
      intro x1 H locs ls hE hI hl
      rw [X3_leastToPutBack_L2] at hE
      refine lv_iload_n hx hb dX3_leastToPutBack_2 rfl (lv_at hl 2 rfl) ?_
      refine lv_bipush (v := 16) hx hb dX3_leastToPutBack_3 (by decide) ?_
      refine lv_icmp_ge (tgt := 45) hx hb dX3_leastToPutBack_5 (by decide) (fun c5 => ?_) (fun c5 => ?_)
      · rw [if_pos c5] at hE
        refine lv_iconst (v := (-1)) hx hb dX3_leastToPutBack_45 (by decide) ?_
        obtain rfl := sm1 hE
        exact xr_i hx hb hr hlk hG hI dX3_leastToPutBack_46
      · rw [if_neg c5] at hE
        refine lv_aload_n hx hb dX3_leastToPutBack_8 rfl (lv_at hl 0 rfl) ?_
        refine xg_get (C := RX3) (T := TX3) (M := 6) hx hb hown hG hI (by omega) eX_61 rfl inX3 1 (by decide) kf_X3_21 rfl dX3_leastToPutBack_9 ?_
        refine lv_iload_n hx hb dX3_leastToPutBack_12 rfl (lv_at hl 1 rfl) ?_
        refine lv_iload_n hx hb dX3_leastToPutBack_13 rfl (lv_at hl 2 rfl) ?_
        obtain ⟨r2, hc, hE⟩ := bd1_some hE
        refine xc_V1 (rest := []) (Ct.toXr (j := 24) (by omega) (c_X4_isBelow (OKX (j := 24) (by omega)) hc)) mw_X4_isBelow km_X3_145 hx hb hml hown hG hI xA_of (wG_atE (by omega) (eX_O (j := 24) (by omega))) rfl rfl ⟨Nat.le_of_ble_eq_true rfl, Nat.le_of_ble_eq_true rfl⟩ rfl hl.1 rfl (Nat.le_of_ble_eq_true rfl) dX3_leastToPutBack_14 (fun H locs hI => ?_)
        refine lv_if_eq (tgt := 39) hx hb dX3_leastToPutBack_17 (by decide) (fun c17 => ?_) (fun c17 => ?_)
        · rw [if_pos c17] at hE
          refine lv_iinc (v := x1 + 1) (lv' := [(2, .int (x1 + 1)), (0, .ref (A 61)), (1, .int p1)]) hx hb dX3_leastToPutBack_39 hl (k := 2) rfl rfl (by decide) rfl (fun ls hl => ?_)
          refine lv_goto (tgt := 2) hx hb dX3_leastToPutBack_42 (by decide) ?_
          exact ih2 _ _ _ _ hE hI (lv_sub hl [1, 2, 0] rfl)
        · rw [if_neg c17] at hE
          refine lv_aload_n hx hb dX3_leastToPutBack_20 rfl (lv_at hl 0 rfl) ?_
          refine xg_get (C := RX3) (T := TX3) (M := 6) hx hb hown hG hI (by omega) eX_61 rfl inX3 3 (by decide) kf_X3_34 rfl dX3_leastToPutBack_21 ?_
          refine lv_iload_n hx hb dX3_leastToPutBack_24 rfl (lv_at hl 2 rfl) ?_
          obtain ⟨v3, hv, hE⟩ := bd1_some hE
          refine xg_zald 1 hx hb hG hI (by omega) eX_62 rfl hv dX3_leastToPutBack_25 ?_
          refine lv_if_ne (tgt := 39) hx hb dX3_leastToPutBack_26 (by decide) (fun c26 => ?_) (fun c26 => ?_)
          · rw [if_neg c26] at hE
            refine lv_iinc (v := x1 + 1) (lv' := [(2, .int (x1 + 1)), (0, .ref (A 61)), (1, .int p1)]) hx hb dX3_leastToPutBack_39 hl (k := 2) rfl rfl (by decide) rfl (fun ls hl => ?_)
            refine lv_goto (tgt := 2) hx hb dX3_leastToPutBack_42 (by decide) ?_
            exact ih2 _ _ _ _ hE hI (lv_sub hl [1, 2, 0] rfl)
          · rw [if_pos c26] at hE
            refine lv_aload_n hx hb dX3_leastToPutBack_29 rfl (lv_at hl 0 rfl) ?_
            refine lv_iload_n hx hb dX3_leastToPutBack_30 rfl (lv_at hl 2 rfl) ?_
            obtain ⟨r4, hc, hE⟩ := bd1_some hE
            refine xc_V1 (rest := []) (c_X3_isMoveOfOther hc) mw_X3_isMoveOfOther km_X3_148 hx hb hml hown hG hI xA_of (wG_atE (by omega) eX_61) rfl rfl ⟨Nat.le_of_ble_eq_true rfl, Nat.le_of_ble_eq_true rfl⟩ rfl hl.1 rfl (Nat.le_of_ble_eq_true rfl) dX3_leastToPutBack_31 (fun H locs hI => ?_)
            refine lv_if_eq (tgt := 39) hx hb dX3_leastToPutBack_34 (by decide) (fun c34 => ?_) (fun c34 => ?_)
            · rw [if_pos c34] at hE
              refine lv_iinc (v := x1 + 1) (lv' := [(2, .int (x1 + 1)), (0, .ref (A 61)), (1, .int p1)]) hx hb dX3_leastToPutBack_39 hl (k := 2) rfl rfl (by decide) rfl (fun ls hl => ?_)
              refine lv_goto (tgt := 2) hx hb dX3_leastToPutBack_42 (by decide) ?_
              exact ih2 _ _ _ _ hE hI (lv_sub hl [1, 2, 0] rfl)
            · rw [if_neg c34] at hE
              refine lv_iload_n hx hb dX3_leastToPutBack_37 rfl (lv_at hl 2 rfl) ?_
              obtain rfl := sm1 hE
              exact xr_i hx hb hr hlk hG hI dX3_leastToPutBack_38
  exact hL2 _ _ _ _ _ hE hI (lv_sub hl [1, 2, 0] rfl)
def X3_rehangFromRing (u : Mem) (p1 : Int32) (p2 : Int32) : Option (Mem) :=
  (X4_trait (u 49) p1 0 : Option Int32).bind fun (r1 : Int32) => (X6_tell u 0 5 p1 r1 : Option Mem).bind fun (mu2 : Mem) => (stO mu2 49 (X4_put (mu2 49) p1 0 p2) : Option Mem).bind fun (mu3 : Mem) => some mu3
set_option maxHeartbeats 4000000 in
set_option maxRecDepth 100000 in
theorem c_X3_rehangFromRing {l : Launch} {D : va_G} {A : Nat → Nat} {cI cZ cD : ClassId} {u u1 : Mem} {p1 : Int32} {p2 : Int32}  (hE : X3_rehangFromRing u p1 p2 = some (u1)) : Ct l yX3_rehangFromRing cX3_rehangFromRing 3 none (rmOf 1 23) D (tyL cI cZ cD) [.ref (A 61), .int p1, .int p2] (wX A cI cZ cD u) none (wX A cI cZ cD u1) := by
  refine Ct.ofW (by decide +kernel) (fun p e s m below meth c hC hI => ?_)
  obtain ⟨hx, hb, hml, hown, hr, hlk, hG⟩ := hC
  have hown : s.vm.findClass RX3 = some m.cls := hown
  have hl := lv_entry ([.ref (A 61), .int p1, .int p2] : List Value) (n := 3) (Nat.le_of_ble_eq_true rfl)
  rw [lg_entry_eq]
  generalize (lg_sl ([.ref (A 61), .int p1, .int p2] : List Value) ++ List.replicate (3 - (lg_sl ([.ref (A 61), .int p1, .int p2] : List Value)).length) Slot.unset).toArray = ls at hl ⊢
  have hl : lv_has ls 3 [(0, .ref (A 61)), (1, .int p1), (2, .int p2)] := hl
  unfold X3_rehangFromRing at hE
  refine lv_aload_n hx hb dX3_rehangFromRing_0 rfl (lv_at hl 0 rfl) ?_
  refine xg_get (C := RX3) (T := TX3) (M := 6) hx hb hown hG hI (by omega) eX_61 rfl inX3 2 (by decide) kf_X3_30 rfl dX3_rehangFromRing_1 ?_
  refine lv_iconst (v := 5) hx hb dX3_rehangFromRing_4 (by decide) ?_
  refine lv_iload_n hx hb dX3_rehangFromRing_5 rfl (lv_at hl 1 rfl) ?_
  refine lv_aload_n hx hb dX3_rehangFromRing_6 rfl (lv_at hl 0 rfl) ?_
  refine xg_get (C := RX3) (T := TX3) (M := 6) hx hb hown hG hI (by omega) eX_61 rfl inX3 1 (by decide) kf_X3_21 rfl dX3_rehangFromRing_7 ?_
  refine lv_iload_n hx hb dX3_rehangFromRing_10 rfl (lv_at hl 1 rfl) ?_
  refine lv_iconst (v := 0) hx hb dX3_rehangFromRing_11 (by decide) ?_
  obtain ⟨r1, hc, hE⟩ := bd1_some hE
  refine xc_V1 (rest := [.int p1, .int 5, .ref (A 64)]) (Ct.toXr (j := 24) (by omega) (c_X4_trait (OKX (j := 24) (by omega)) hc)) mw_X4_trait km_X3_103 hx hb hml hown hG hI xA_of (wG_atE (by omega) (eX_O (j := 24) (by omega))) rfl rfl ⟨Nat.le_of_ble_eq_true rfl, Nat.le_of_ble_eq_true rfl⟩ rfl hl.1 rfl (Nat.le_of_ble_eq_true rfl) dX3_rehangFromRing_12 (fun H locs hI => ?_)
  obtain ⟨mu2, hc, hE⟩ := bd1_some hE
  refine xc_V0 (rest := []) (c_X6_tell (by omega) hc) mw_X6_tell km_X3_92 hx hb hml hown hG hI xA_of (wG_atE (by omega) (eX_T (t := 0) (by omega))) rfl rfl ⟨Nat.le_of_ble_eq_true rfl, Nat.le_of_ble_eq_true rfl⟩ rfl hl.1 rfl (Nat.le_of_ble_eq_true rfl) dX3_rehangFromRing_15 (fun H locs hI => ?_)
  refine lv_aload_n hx hb dX3_rehangFromRing_18 rfl (lv_at hl 0 rfl) ?_
  refine xg_get (C := RX3) (T := TX3) (M := 6) hx hb hown hG hI (by omega) eX_61 rfl inX3 1 (by decide) kf_X3_21 rfl dX3_rehangFromRing_19 ?_
  refine lv_iload_n hx hb dX3_rehangFromRing_22 rfl (lv_at hl 1 rfl) ?_
  refine lv_iconst (v := 0) hx hb dX3_rehangFromRing_23 (by decide) ?_
  refine lv_iload_n hx hb dX3_rehangFromRing_24 rfl (lv_at hl 2 rfl) ?_
  obtain ⟨mu3, hc, hE⟩ := bd1_some hE
  obtain ⟨ff, hf, hu⟩ := stO_some hc
  refine xc_V0 (rest := []) (Ct.toXw (j := 24) (by omega) hu (c_X4_put (OKX (j := 24) (by omega)) hf)) mw_X4_put km_X3_115 hx hb hml hown hG hI xA_of (wG_atE (by omega) (eX_O (j := 24) (by omega))) rfl rfl ⟨Nat.le_of_ble_eq_true rfl, Nat.le_of_ble_eq_true rfl⟩ rfl hl.1 rfl (Nat.le_of_ble_eq_true rfl) dX3_rehangFromRing_25 (fun H locs hI => ?_)
  obtain rfl := sm1 hE
  exact xr_v hx hb hr hlk hG hI dX3_rehangFromRing_28
def X3_undoRings_L28 : Nat → Int32 → Int32 → Mem → Option (Mem)
  | 0, _, _, _ => none
  | n28 + 1, x6, x7, mu8 =>
    (if 32 ≤ x7 then some mu8 else (if x6 = (-1) then some mu8 else (X3_leastToPutBack mu8 x6 : Option Int32).bind fun (r11 : Int32) => (X8_isNumber r11 : Option Bool).bind fun (r12 : Bool) => ((if (b2i r12) = 0 then (X3_rehangFromRing mu8 x6 0 : Option Mem).bind fun (mu16 : Mem) => some mu16 else (X4_trait (mu8 46) r11 0 : Option Int32).bind fun (r17 : Int32) => (X3_nearest mu8 r17 : Option Int32).bind fun (r18 : Int32) => (X3_rehangFromRing mu8 r11 r18 : Option Mem).bind fun (mu19 : Mem) => (stI 16 mu19 62 r11 (bnar 1)).bind fun mu20 => some mu20) : Option Mem).bind fun (mu13 : Mem) => (X3_leastInRing mu13 : Option Int32).bind fun (r15 : Int32) => X3_undoRings_L28 n28 r15 (x7 + 1) mu13))
def X3_undoRings_L2 : Nat → Int32 → Mem → Option (Mem)
  | 0, _, _ => none
  | n2 + 1, x1, mu2 =>
    (if 16 ≤ x1 then some mu2 else (stI 16 mu2 62 x1 (bnar 0)).bind fun mu21 => X3_undoRings_L2 n2 (x1 + 1) mu21)
def X3_undoRings (u : Mem) : Option (Mem) :=
  (X3_undoRings_L2 fu 0 u : Option Mem).bind fun (mu3 : Mem) => (X3_leastInRing mu3 : Option Int32).bind fun (r5 : Int32) => (X3_undoRings_L28 fu r5 0 mu3 : Option Mem).bind fun (mu9 : Mem) => some mu9
set_option maxHeartbeats 4000000 in
set_option maxRecDepth 100000 in
theorem c_X3_undoRings {l : Launch} {D : va_G} {A : Nat → Nat} {cI cZ cD : ClassId} {u u1 : Mem}  (hE : X3_undoRings u = some (u1)) : Ct l yX3_undoRings cX3_undoRings 4 none (rmOf 3 68) D (tyL cI cZ cD) [.ref (A 61)] (wX A cI cZ cD u) none (wX A cI cZ cD u1) := by
  refine Ct.ofW (by decide +kernel) (fun p e s m below meth c hC hI => ?_)
  obtain ⟨hx, hb, hml, hown, hr, hlk, hG⟩ := hC
  have hown : s.vm.findClass RX3 = some m.cls := hown
  have hl := lv_entry ([.ref (A 61)] : List Value) (n := 4) (Nat.le_of_ble_eq_true rfl)
  rw [lg_entry_eq]
  generalize (lg_sl ([.ref (A 61)] : List Value) ++ List.replicate (4 - (lg_sl ([.ref (A 61)] : List Value)).length) Slot.unset).toArray = ls at hl ⊢
  have hl : lv_has ls 4 [(0, .ref (A 61))] := hl
  unfold X3_undoRings at hE
  refine lv_iconst (v := 0) hx hb dX3_undoRings_0 (by decide) ?_
  refine lv_istore_n (lv' := [(1, .int 0), (0, .ref (A 61))]) hx hb dX3_undoRings_1 rfl hl (by decide) rfl (fun ls hl => ?_)
  obtain ⟨mu3, hZ, hE⟩ := bd1_some hE
  have hX2_3 : ∀ (H : Heap) (locs : List Loc) (ls : Array Slot), xI D (va_A (wX A cI cZ cD u) s.heap.size) s.heap (wX A cI cZ cD mu3) H locs → lv_has ls 4 [(0, .ref (A 61))] → W p l e (rmOf 3 68) s m ([.ref (A 61)] : List Value).toArray below meth c H locs 0 0 (xQ D (tyL cI cZ cD) below ([.ref (A 61)] : List Value).toArray s (wX A cI cZ cD u) none (wX A cI cZ cD u1)) (F0 m 21 ls []) := by
    intro H locs ls hI hl
    clear hZ
    refine lv_aload_n hx hb dX3_undoRings_21 rfl (lv_at hl 0 rfl) ?_
    obtain ⟨r5, hc, hE⟩ := bd1_some hE
    refine xc_V1 (rest := []) (c_X3_leastInRing hc) mw_X3_leastInRing km_X3_132 hx hb hml hown hG hI xA_of (wG_atE (by omega) eX_61) rfl rfl ⟨Nat.le_of_ble_eq_true rfl, Nat.le_of_ble_eq_true rfl⟩ rfl hl.1 rfl (Nat.le_of_ble_eq_true rfl) dX3_undoRings_22 (fun H locs hI => ?_)
    refine lv_istore_n (lv' := [(1, .int r5), (0, .ref (A 61))]) hx hb dX3_undoRings_25 rfl hl (by decide) rfl (fun ls hl => ?_)
    refine lv_iconst (v := 0) hx hb dX3_undoRings_26 (by decide) ?_
    refine lv_istore_n (lv' := [(2, .int 0), (1, .int r5), (0, .ref (A 61))]) hx hb dX3_undoRings_27 rfl hl (by decide) rfl (fun ls hl => ?_)
    obtain ⟨mu9, hZ, hE⟩ := bd1_some hE
    have hX28_9 : ∀ (H : Heap) (locs : List Loc) (ls : Array Slot), xI D (va_A (wX A cI cZ cD u) s.heap.size) s.heap (wX A cI cZ cD mu9) H locs → lv_has ls 4 [] → W p l e (rmOf 3 68) s m ([.ref (A 61)] : List Value).toArray below meth c H locs 0 0 (xQ D (tyL cI cZ cD) below ([.ref (A 61)] : List Value).toArray s (wX A cI cZ cD u) none (wX A cI cZ cD u1)) (F0 m 100 ls []) := by
      intro H locs ls hI hl
      clear hZ
      obtain rfl := sm1 hE
      exact xr_v hx hb hr hlk hG hI dX3_undoRings_100
    replace hE := hZ
    clear hZ
    have hL28 : ∀ (n28 : Nat) (x6 : Int32) (x7 : Int32) (mu8 : Mem) (H : Heap) (locs : List Loc) (ls : Array Slot), X3_undoRings_L28 n28 x6 x7 mu8 = some mu9 → xI D (va_A (wX A cI cZ cD u) s.heap.size) s.heap (wX A cI cZ cD mu8) H locs → lv_has ls 4 [(0, .ref (A 61)), (1, .int x6), (2, .int x7)] → W p l e (rmOf 3 68) s m ([.ref (A 61)] : List Value).toArray below meth c H locs 0 0 (xQ D (tyL cI cZ cD) below ([.ref (A 61)] : List Value).toArray s (wX A cI cZ cD u) none (wX A cI cZ cD u1)) (F0 m 28 ls []) := by
      intro n28
      induction n28 with
      | zero =>
        intro x6 x7 mu8 H locs ls hE
        exact absurd hE (by simp [X3_undoRings_L28])
      | succ n28 ih28 =>
        intro x6 x7 mu8 H locs ls hE hI hl
        rw [X3_undoRings_L28] at hE
        refine lv_iload_n hx hb dX3_undoRings_28 rfl (lv_at hl 2 rfl) ?_
        refine lv_bipush (v := 32) hx hb dX3_undoRings_29 (by decide) ?_
        refine lv_icmp_ge (tgt := 100) hx hb dX3_undoRings_31 (by decide) (fun c31 => ?_) (fun c31 => ?_)
        · rw [if_pos c31] at hE
          obtain rfl := sm1 hE
          exact hX28_9 _ _ _ hI (lv_sub hl [] rfl)
        · rw [if_neg c31] at hE
          refine lv_iload_n hx hb dX3_undoRings_34 rfl (lv_at hl 1 rfl) ?_
          refine lv_iconst (v := (-1)) hx hb dX3_undoRings_35 (by decide) ?_
          refine lv_icmp_eq (tgt := 100) hx hb dX3_undoRings_36 (by decide) (fun c36 => ?_) (fun c36 => ?_)
          · rw [if_pos c36] at hE
            obtain rfl := sm1 hE
            exact hX28_9 _ _ _ hI (lv_sub hl [] rfl)
          · rw [if_neg c36] at hE
            refine lv_aload_n hx hb dX3_undoRings_39 rfl (lv_at hl 0 rfl) ?_
            refine lv_iload_n hx hb dX3_undoRings_40 rfl (lv_at hl 1 rfl) ?_
            obtain ⟨r11, hc, hE⟩ := bd1_some hE
            refine xc_V1 (rest := []) (c_X3_leastToPutBack hc) mw_X3_leastToPutBack km_X3_136 hx hb hml hown hG hI xA_of (wG_atE (by omega) eX_61) rfl rfl ⟨Nat.le_of_ble_eq_true rfl, Nat.le_of_ble_eq_true rfl⟩ rfl hl.1 rfl (Nat.le_of_ble_eq_true rfl) dX3_undoRings_41 (fun H locs hI => ?_)
            refine lv_istore_n (lv' := [(3, .int r11), (0, .ref (A 61)), (1, .int x6), (2, .int x7)]) hx hb dX3_undoRings_44 rfl hl (by decide) rfl (fun ls hl => ?_)
            refine lv_iload_n hx hb dX3_undoRings_45 rfl (lv_at hl 0 rfl) ?_
            obtain ⟨r12, hc, hE⟩ := bd1_some hE
            refine xc_SN1 (rest := []) (c_X8_isNumber hc) mw_X8_isNumber km_X3_139 hx hb hml hown hG hI xA_of ⟨Nat.le_of_ble_eq_true rfl, Nat.le_of_ble_eq_true rfl⟩ rfl hl.1 rfl (Nat.le_of_ble_eq_true rfl) dX3_undoRings_46 (fun H locs hI => ?_)
            obtain ⟨mu13, hZ, hE⟩ := bd1_some hE
            have hJ89_13 : ∀ (H : Heap) (locs : List Loc) (ls : Array Slot), xI D (va_A (wX A cI cZ cD u) s.heap.size) s.heap (wX A cI cZ cD mu13) H locs → lv_has ls 4 [(0, .ref (A 61)), (2, .int x7)] → W p l e (rmOf 3 68) s m ([.ref (A 61)] : List Value).toArray below meth c H locs 0 0 (xQ D (tyL cI cZ cD) below ([.ref (A 61)] : List Value).toArray s (wX A cI cZ cD u) none (wX A cI cZ cD u1)) (F0 m 89 ls []) := by
              intro H locs ls hI hl
              clear hZ
              refine lv_aload_n hx hb dX3_undoRings_89 rfl (lv_at hl 0 rfl) ?_
              obtain ⟨r15, hc, hE⟩ := bd1_some hE
              refine xc_V1 (rest := []) (c_X3_leastInRing hc) mw_X3_leastInRing km_X3_132 hx hb hml hown hG hI xA_of (wG_atE (by omega) eX_61) rfl rfl ⟨Nat.le_of_ble_eq_true rfl, Nat.le_of_ble_eq_true rfl⟩ rfl hl.1 rfl (Nat.le_of_ble_eq_true rfl) dX3_undoRings_90 (fun H locs hI => ?_)
              refine lv_istore_n (lv' := [(1, .int r15), (0, .ref (A 61)), (2, .int x7)]) hx hb dX3_undoRings_93 rfl hl (by decide) rfl (fun ls hl => ?_)
              refine lv_iinc (v := x7 + 1) (lv' := [(2, .int (x7 + 1)), (1, .int r15), (0, .ref (A 61))]) hx hb dX3_undoRings_94 hl (k := 2) rfl rfl (by decide) rfl (fun ls hl => ?_)
              refine lv_goto (tgt := 28) hx hb dX3_undoRings_97 (by decide) ?_
              exact ih28 _ _ _ _ _ _ hE hI (lv_sub hl [2, 1, 0] rfl)
            replace hE := hZ
            clear hZ
            refine lv_if_eq (tgt := 83) hx hb dX3_undoRings_49 (by decide) (fun c49 => ?_) (fun c49 => ?_)
            · rw [if_pos c49] at hE
              refine lv_aload_n hx hb dX3_undoRings_83 rfl (lv_at hl 1 rfl) ?_
              refine lv_iload_n hx hb dX3_undoRings_84 rfl (lv_at hl 2 rfl) ?_
              refine lv_iconst (v := 0) hx hb dX3_undoRings_85 (by decide) ?_
              obtain ⟨mu16, hc, hE⟩ := bd1_some hE
              refine xc_V0 (rest := []) (c_X3_rehangFromRing hc) mw_X3_rehangFromRing km_X3_142 hx hb hml hown hG hI xA_of (wG_atE (by omega) eX_61) rfl rfl ⟨Nat.le_of_ble_eq_true rfl, Nat.le_of_ble_eq_true rfl⟩ rfl hl.1 rfl (Nat.le_of_ble_eq_true rfl) dX3_undoRings_86 (fun H locs hI => ?_)
              obtain rfl := sm1 hE
              exact hJ89_13 _ _ _ hI (lv_sub hl [1, 3] rfl)
            · rw [if_neg c49] at hE
              refine lv_aload_n hx hb dX3_undoRings_52 rfl (lv_at hl 1 rfl) ?_
              refine lv_iload_n hx hb dX3_undoRings_53 rfl (lv_at hl 0 rfl) ?_
              refine lv_aload_n hx hb dX3_undoRings_54 rfl (lv_at hl 1 rfl) ?_
              refine lv_aload_n hx hb dX3_undoRings_55 rfl (lv_at hl 1 rfl) ?_
              refine xg_get (C := RX3) (T := TX3) (M := 6) hx hb hown hG hI (by omega) eX_61 rfl inX3 0 (by decide) kf_X3_12 rfl dX3_undoRings_56 ?_
              refine xg_getN (C := RX0) (T := TX0) (M := 5) hx hb hown hG hI (by omega) (eX_D (d := 7) (by omega)) rfl inX0 0 (by decide) kf_X3_82 rfl dX3_undoRings_59 ?_
              refine lv_iload_n hx hb dX3_undoRings_62 rfl (lv_at hl 0 rfl) ?_
              refine lv_iconst (v := 0) hx hb dX3_undoRings_63 (by decide) ?_
              obtain ⟨r17, hc, hE⟩ := bd1_some hE
              refine xc_V1 (rest := [.ref (A 61), .int r11, .ref (A 61)]) (Ct.toXr (j := 21) (by omega) (c_X4_trait (OKX (j := 21) (by omega)) hc)) mw_X4_trait km_X3_103 hx hb hml hown hG hI xA_of (wG_atE (by omega) (eX_O (j := 21) (by omega))) rfl rfl ⟨Nat.le_of_ble_eq_true rfl, Nat.le_of_ble_eq_true rfl⟩ rfl hl.1 rfl (Nat.le_of_ble_eq_true rfl) dX3_undoRings_64 (fun H locs hI => ?_)
              obtain ⟨r18, hc, hE⟩ := bd1_some hE
              refine xc_V1 (rest := [.int r11, .ref (A 61)]) (c_X3_nearest hc) mw_X3_nearest km_X3_128 hx hb hml hown hG hI xA_of (wG_atE (by omega) eX_61) rfl rfl ⟨Nat.le_of_ble_eq_true rfl, Nat.le_of_ble_eq_true rfl⟩ rfl hl.1 rfl (Nat.le_of_ble_eq_true rfl) dX3_undoRings_67 (fun H locs hI => ?_)
              obtain ⟨mu19, hc, hE⟩ := bd1_some hE
              refine xc_V0 (rest := []) (c_X3_rehangFromRing hc) mw_X3_rehangFromRing km_X3_142 hx hb hml hown hG hI xA_of (wG_atE (by omega) eX_61) rfl rfl ⟨Nat.le_of_ble_eq_true rfl, Nat.le_of_ble_eq_true rfl⟩ rfl hl.1 rfl (Nat.le_of_ble_eq_true rfl) dX3_undoRings_70 (fun H locs hI => ?_)
              refine lv_aload_n hx hb dX3_undoRings_73 rfl (lv_at hl 1 rfl) ?_
              refine xg_get (C := RX3) (T := TX3) (M := 6) hx hb hown hG hI (by omega) eX_61 rfl inX3 3 (by decide) kf_X3_34 rfl dX3_undoRings_74 ?_
              refine lv_iload_n hx hb dX3_undoRings_77 rfl (lv_at hl 0 rfl) ?_
              refine lv_iconst (v := 1) hx hb dX3_undoRings_78 (by decide) ?_
              obtain ⟨mu20, hv, hE⟩ := bd1_some hE
              refine xg_zast 1 hx hb hG hI (by omega) eX_62 rfl hv dX3_undoRings_79 (fun H locs hI => ?_)
              refine lv_goto (tgt := 89) hx hb dX3_undoRings_80 (by decide) ?_
              obtain rfl := sm1 hE
              exact hJ89_13 _ _ _ hI (lv_sub hl [1, 3] rfl)
    exact hL28 _ _ _ _ _ _ _ hE hI (lv_sub hl [2, 1, 0] rfl)
  replace hE := hZ
  clear hZ
  have hL2 : ∀ (n2 : Nat) (x1 : Int32) (mu2 : Mem) (H : Heap) (locs : List Loc) (ls : Array Slot), X3_undoRings_L2 n2 x1 mu2 = some mu3 → xI D (va_A (wX A cI cZ cD u) s.heap.size) s.heap (wX A cI cZ cD mu2) H locs → lv_has ls 4 [(0, .ref (A 61)), (1, .int x1)] → W p l e (rmOf 3 68) s m ([.ref (A 61)] : List Value).toArray below meth c H locs 0 0 (xQ D (tyL cI cZ cD) below ([.ref (A 61)] : List Value).toArray s (wX A cI cZ cD u) none (wX A cI cZ cD u1)) (F0 m 2 ls []) := by
    intro n2
    induction n2 with
    | zero =>
      intro x1 mu2 H locs ls hE
      exact absurd hE (by simp [X3_undoRings_L2])
    | succ n2 ih2 =>
      intro x1 mu2 H locs ls hE hI hl
      rw [X3_undoRings_L2] at hE
      refine lv_iload_n hx hb dX3_undoRings_2 rfl (lv_at hl 1 rfl) ?_
      refine lv_bipush (v := 16) hx hb dX3_undoRings_3 (by decide) ?_
      refine lv_icmp_ge (tgt := 21) hx hb dX3_undoRings_5 (by decide) (fun c5 => ?_) (fun c5 => ?_)
      · rw [if_pos c5] at hE
        obtain rfl := sm1 hE
        exact hX2_3 _ _ _ hI (lv_sub hl [0] rfl)
      · rw [if_neg c5] at hE
        refine lv_aload_n hx hb dX3_undoRings_8 rfl (lv_at hl 0 rfl) ?_
        refine xg_get (C := RX3) (T := TX3) (M := 6) hx hb hown hG hI (by omega) eX_61 rfl inX3 3 (by decide) kf_X3_34 rfl dX3_undoRings_9 ?_
        refine lv_iload_n hx hb dX3_undoRings_12 rfl (lv_at hl 1 rfl) ?_
        refine lv_iconst (v := 0) hx hb dX3_undoRings_13 (by decide) ?_
        obtain ⟨mu21, hv, hE⟩ := bd1_some hE
        refine xg_zast 1 hx hb hG hI (by omega) eX_62 rfl hv dX3_undoRings_14 (fun H locs hI => ?_)
        refine lv_iinc (v := x1 + 1) (lv' := [(1, .int (x1 + 1)), (0, .ref (A 61))]) hx hb dX3_undoRings_15 hl (k := 1) rfl rfl (by decide) rfl (fun ls hl => ?_)
        refine lv_goto (tgt := 2) hx hb dX3_undoRings_18 (by decide) ?_
        exact ih2 _ _ _ _ _ hE hI (lv_sub hl [1, 0] rfl)
  exact hL2 _ _ _ _ _ _ hE hI (lv_sub hl [1, 0] rfl)
def X3_keyOf (u : Mem) (p1 : Int32) : Option (Int32) :=
  (X4_trait (u 49) p1 0 : Option Int32).bind fun (r1 : Int32) => (X0_preferredSide u 7 : Option Nat).bind fun (r2 : Nat) => (X4_isChild (u (25 + r2)) p1 r1 : Option Bool).bind fun (r3 : Bool) => (if (b2i r3) = 0 then (X0_otherSide u 7 : Option Nat).bind fun (r4 : Nat) => (X4_isChild (u (25 + r4)) p1 r1 : Option Bool).bind fun (r5 : Bool) => (if (b2i r5) = 0 then some 100 else (X4_trait (u (25 + r4)) p1 1 : Option Int32).bind fun (r6 : Int32) => some ((2 * r6) + 1)) else (X4_trait (u (25 + r2)) p1 1 : Option Int32).bind fun (r7 : Int32) => some (2 * r7))
set_option maxHeartbeats 4000000 in
set_option maxRecDepth 100000 in
theorem c_X3_keyOf {l : Launch} {D : va_G} {A : Nat → Nat} {cI cZ cD : ClassId} {u : Mem} {p1 : Int32} {r : Int32}  (hE : X3_keyOf u p1 = some (r)) : Ct l yX3_keyOf cX3_keyOf 5 (some .int) (rmOf 1 22) D (tyL cI cZ cD) [.ref (A 61), .int p1] (wX A cI cZ cD u) (some (.int r)) (wX A cI cZ cD u) := by
  refine Ct.ofW (by decide +kernel) (fun p e s m below meth c hC hI => ?_)
  obtain ⟨hx, hb, hml, hown, hr, hlk, hG⟩ := hC
  have hown : s.vm.findClass RX3 = some m.cls := hown
  have hl := lv_entry ([.ref (A 61), .int p1] : List Value) (n := 5) (Nat.le_of_ble_eq_true rfl)
  rw [lg_entry_eq]
  generalize (lg_sl ([.ref (A 61), .int p1] : List Value) ++ List.replicate (5 - (lg_sl ([.ref (A 61), .int p1] : List Value)).length) Slot.unset).toArray = ls at hl ⊢
  have hl : lv_has ls 5 [(0, .ref (A 61)), (1, .int p1)] := hl
  unfold X3_keyOf at hE
  refine lv_aload_n hx hb dX3_keyOf_0 rfl (lv_at hl 0 rfl) ?_
  refine xg_get (C := RX3) (T := TX3) (M := 6) hx hb hown hG hI (by omega) eX_61 rfl inX3 1 (by decide) kf_X3_21 rfl dX3_keyOf_1 ?_
  refine lv_iload_n hx hb dX3_keyOf_4 rfl (lv_at hl 1 rfl) ?_
  refine lv_iconst (v := 0) hx hb dX3_keyOf_5 (by decide) ?_
  obtain ⟨r1, hc, hE⟩ := bd1_some hE
  refine xc_V1 (rest := []) (Ct.toXr (j := 24) (by omega) (c_X4_trait (OKX (j := 24) (by omega)) hc)) mw_X4_trait km_X3_103 hx hb hml hown hG hI xA_of (wG_atE (by omega) (eX_O (j := 24) (by omega))) rfl rfl ⟨Nat.le_of_ble_eq_true rfl, Nat.le_of_ble_eq_true rfl⟩ rfl hl.1 rfl (Nat.le_of_ble_eq_true rfl) dX3_keyOf_6 (fun H locs hI => ?_)
  refine lv_istore_n (lv' := [(2, .int r1), (0, .ref (A 61)), (1, .int p1)]) hx hb dX3_keyOf_9 rfl hl (by decide) rfl (fun ls hl => ?_)
  refine lv_aload_n hx hb dX3_keyOf_10 rfl (lv_at hl 1 rfl) ?_
  refine xg_get (C := RX3) (T := TX3) (M := 6) hx hb hown hG hI (by omega) eX_61 rfl inX3 0 (by decide) kf_X3_12 rfl dX3_keyOf_11 ?_
  obtain ⟨r2, hc, hE⟩ := bd1_some hE
  refine xc_V1 (rest := []) (c_X0_preferredSide (by omega) hc) mw_X0_preferredSide km_X3_125 hx hb hml hown hG hI xA_of (wG_atE (by omega) (eX_D (d := 7) (by omega))) rfl rfl ⟨Nat.le_of_ble_eq_true rfl, Nat.le_of_ble_eq_true rfl⟩ rfl hl.1 rfl (Nat.le_of_ble_eq_true rfl) dX3_keyOf_14 (fun H locs hI => ?_)
  have hr2 : r2 < 25 := lt_X0_preferredSide (by omega) hc
  refine lv_astore_n (lv' := [(3, .ref (A r2)), (2, .int r1), (0, .ref (A 61)), (1, .int p1)]) hx hb dX3_keyOf_17 rfl hl (by decide) rfl (fun ls hl => ?_)
  refine lv_aload_n hx hb dX3_keyOf_18 rfl (lv_at hl 0 rfl) ?_
  refine lv_iload_n hx hb dX3_keyOf_19 rfl (lv_at hl 3 rfl) ?_
  refine lv_iload_n hx hb dX3_keyOf_20 rfl (lv_at hl 1 rfl) ?_
  obtain ⟨r3, hc, hE⟩ := bd1_some hE
  refine xc_V1 (rest := []) (Ct.toXr (j := r2) (by omega) (c_X4_isChild (OKX (j := r2) (by omega)) hc)) mw_X4_isChild km_X3_107 hx hb hml hown hG hI xA_of (wG_atE (by omega) (eX_O (j := r2) (by omega))) rfl rfl ⟨Nat.le_of_ble_eq_true rfl, Nat.le_of_ble_eq_true rfl⟩ rfl hl.1 rfl (Nat.le_of_ble_eq_true rfl) dX3_keyOf_21 (fun H locs hI => ?_)
  refine lv_if_eq (tgt := 36) hx hb dX3_keyOf_24 (by decide) (fun c24 => ?_) (fun c24 => ?_)
  · rw [if_pos c24] at hE
    refine lv_aload_n hx hb dX3_keyOf_36 rfl (lv_at hl 2 rfl) ?_
    refine xg_get (C := RX3) (T := TX3) (M := 6) hx hb hown hG hI (by omega) eX_61 rfl inX3 0 (by decide) kf_X3_12 rfl dX3_keyOf_37 ?_
    obtain ⟨r4, hc, hE⟩ := bd1_some hE
    refine xc_V1 (rest := []) (c_X0_otherSide (by omega) hc) mw_X0_otherSide km_X3_121 hx hb hml hown hG hI xA_of (wG_atE (by omega) (eX_D (d := 7) (by omega))) rfl rfl ⟨Nat.le_of_ble_eq_true rfl, Nat.le_of_ble_eq_true rfl⟩ rfl hl.1 rfl (Nat.le_of_ble_eq_true rfl) dX3_keyOf_40 (fun H locs hI => ?_)
    have hr4 : r4 < 25 := lt_X0_otherSide (by omega) hc
    refine lv_astore (lv' := [(4, .ref (A r4)), (3, .ref (A r2)), (2, .int r1), (0, .ref (A 61)), (1, .int p1)]) hx hb dX3_keyOf_43 hl (by decide) rfl (fun ls hl => ?_)
    refine lv_aload hx hb dX3_keyOf_45 (lv_at hl 0 rfl) ?_
    refine lv_iload_n hx hb dX3_keyOf_47 rfl (lv_at hl 4 rfl) ?_
    refine lv_iload_n hx hb dX3_keyOf_48 rfl (lv_at hl 2 rfl) ?_
    obtain ⟨r5, hc, hE⟩ := bd1_some hE
    refine xc_V1 (rest := []) (Ct.toXr (j := r4) (by omega) (c_X4_isChild (OKX (j := r4) (by omega)) hc)) mw_X4_isChild km_X3_107 hx hb hml hown hG hI xA_of (wG_atE (by omega) (eX_O (j := r4) (by omega))) rfl rfl ⟨Nat.le_of_ble_eq_true rfl, Nat.le_of_ble_eq_true rfl⟩ rfl hl.1 rfl (Nat.le_of_ble_eq_true rfl) dX3_keyOf_49 (fun H locs hI => ?_)
    refine lv_if_eq (tgt := 69) hx hb dX3_keyOf_52 (by decide) (fun c52 => ?_) (fun c52 => ?_)
    · rw [if_pos c52] at hE
      refine lv_bipush (v := 100) hx hb dX3_keyOf_69 (by decide) ?_
      obtain rfl := sm1 hE
      exact xr_i hx hb hr hlk hG hI dX3_keyOf_71
    · rw [if_neg c52] at hE
      refine lv_iconst (v := 2) hx hb dX3_keyOf_55 (by decide) ?_
      refine lv_aload hx hb dX3_keyOf_56 (lv_at hl 0 rfl) ?_
      refine lv_iload_n hx hb dX3_keyOf_58 rfl (lv_at hl 4 rfl) ?_
      refine lv_iconst (v := 1) hx hb dX3_keyOf_59 (by decide) ?_
      obtain ⟨r6, hc, hE⟩ := bd1_some hE
      refine xc_V1 (rest := [.int 2]) (Ct.toXr (j := r4) (by omega) (c_X4_trait (OKX (j := r4) (by omega)) hc)) mw_X4_trait km_X3_103 hx hb hml hown hG hI xA_of (wG_atE (by omega) (eX_O (j := r4) (by omega))) rfl rfl ⟨Nat.le_of_ble_eq_true rfl, Nat.le_of_ble_eq_true rfl⟩ rfl hl.1 rfl (Nat.le_of_ble_eq_true rfl) dX3_keyOf_60 (fun H locs hI => ?_)
      refine lv_imul hx hb dX3_keyOf_63 ?_
      refine lv_iconst (v := 1) hx hb dX3_keyOf_64 (by decide) ?_
      refine lv_iadd hx hb dX3_keyOf_65 ?_
      refine lv_goto (tgt := 71) hx hb dX3_keyOf_66 (by decide) ?_
      obtain rfl := sm1 hE
      exact xr_i hx hb hr hlk hG hI dX3_keyOf_71
  · rw [if_neg c24] at hE
    refine lv_iconst (v := 2) hx hb dX3_keyOf_27 (by decide) ?_
    refine lv_aload_n hx hb dX3_keyOf_28 rfl (lv_at hl 0 rfl) ?_
    refine lv_iload_n hx hb dX3_keyOf_29 rfl (lv_at hl 3 rfl) ?_
    refine lv_iconst (v := 1) hx hb dX3_keyOf_30 (by decide) ?_
    obtain ⟨r7, hc, hE⟩ := bd1_some hE
    refine xc_V1 (rest := [.int 2]) (Ct.toXr (j := r2) (by omega) (c_X4_trait (OKX (j := r2) (by omega)) hc)) mw_X4_trait km_X3_103 hx hb hml hown hG hI xA_of (wG_atE (by omega) (eX_O (j := r2) (by omega))) rfl rfl ⟨Nat.le_of_ble_eq_true rfl, Nat.le_of_ble_eq_true rfl⟩ rfl hl.1 rfl (Nat.le_of_ble_eq_true rfl) dX3_keyOf_31 (fun H locs hI => ?_)
    refine lv_imul hx hb dX3_keyOf_34 ?_
    obtain rfl := sm1 hE
    exact xr_i hx hb hr hlk hG hI dX3_keyOf_35
def X3_isAhead (u : Mem) (p1 : Int32) (p2 : Int32) : Option (Bool) :=
  (X8_isNumber p1 : Option Bool).bind fun (r1 : Bool) => (if (b2i r1) = 0 then some false else (X8_isNumber p2 : Option Bool).bind fun (r2 : Bool) => (if (b2i r2) = 0 then some false else (rd 16 (u 63) p1).bind fun v3 => (rd 16 (u 63) p2).bind fun v4 => (if v3 < v4 then some true else (rd 16 (u 63) p1).bind fun v5 => (rd 16 (u 63) p2).bind fun v6 => (if v5 = v6 then (if p2 ≤ p1 then some false else some true) else some false))))
set_option maxHeartbeats 4000000 in
set_option maxRecDepth 100000 in
theorem c_X3_isAhead {l : Launch} {D : va_G} {A : Nat → Nat} {cI cZ cD : ClassId} {u : Mem} {p1 : Int32} {p2 : Int32} {r : Bool}  (hE : X3_isAhead u p1 p2 = some (r)) : Ct l yX3_isAhead cX3_isAhead 3 (some .boolean) (rmOf 1 20) D (tyL cI cZ cD) [.ref (A 61), .int p1, .int p2] (wX A cI cZ cD u) (some (.int (b2i r))) (wX A cI cZ cD u) := by
  refine Ct.ofW (by decide +kernel) (fun p e s m below meth c hC hI => ?_)
  obtain ⟨hx, hb, hml, hown, hr, hlk, hG⟩ := hC
  have hown : s.vm.findClass RX3 = some m.cls := hown
  have hl := lv_entry ([.ref (A 61), .int p1, .int p2] : List Value) (n := 3) (Nat.le_of_ble_eq_true rfl)
  rw [lg_entry_eq]
  generalize (lg_sl ([.ref (A 61), .int p1, .int p2] : List Value) ++ List.replicate (3 - (lg_sl ([.ref (A 61), .int p1, .int p2] : List Value)).length) Slot.unset).toArray = ls at hl ⊢
  have hl : lv_has ls 3 [(0, .ref (A 61)), (1, .int p1), (2, .int p2)] := hl
  unfold X3_isAhead at hE
  refine lv_iload_n hx hb dX3_isAhead_0 rfl (lv_at hl 1 rfl) ?_
  obtain ⟨r1, hc, hE⟩ := bd1_some hE
  refine xc_SN1 (rest := []) (c_X8_isNumber hc) mw_X8_isNumber km_X3_139 hx hb hml hown hG hI xA_of ⟨Nat.le_of_ble_eq_true rfl, Nat.le_of_ble_eq_true rfl⟩ rfl hl.1 rfl (Nat.le_of_ble_eq_true rfl) dX3_isAhead_1 (fun H locs hI => ?_)
  refine lv_if_eq (tgt := 14) hx hb dX3_isAhead_4 (by decide) (fun c4 => ?_) (fun c4 => ?_)
  · rw [if_pos c4] at hE
    refine lv_iconst (v := 0) hx hb dX3_isAhead_14 (by decide) ?_
    obtain rfl := sm1 hE
    exact xr_z rfl hx hb hr hlk hG hI dX3_isAhead_15
  · rw [if_neg c4] at hE
    refine lv_iload_n hx hb dX3_isAhead_7 rfl (lv_at hl 2 rfl) ?_
    obtain ⟨r2, hc, hE⟩ := bd1_some hE
    refine xc_SN1 (rest := []) (c_X8_isNumber hc) mw_X8_isNumber km_X3_139 hx hb hml hown hG hI xA_of ⟨Nat.le_of_ble_eq_true rfl, Nat.le_of_ble_eq_true rfl⟩ rfl hl.1 rfl (Nat.le_of_ble_eq_true rfl) dX3_isAhead_8 (fun H locs hI => ?_)
    refine lv_if_ne (tgt := 16) hx hb dX3_isAhead_11 (by decide) (fun c11 => ?_) (fun c11 => ?_)
    · rw [if_neg c11] at hE
      refine lv_aload_n hx hb dX3_isAhead_16 rfl (lv_at hl 0 rfl) ?_
      refine xg_get (C := RX3) (T := TX3) (M := 6) hx hb hown hG hI (by omega) eX_61 rfl inX3 4 (by decide) kf_X3_38 rfl dX3_isAhead_17 ?_
      refine lv_iload_n hx hb dX3_isAhead_20 rfl (lv_at hl 1 rfl) ?_
      obtain ⟨v3, hv, hE⟩ := bd1_some hE
      refine xg_iald 0 hx hb hG hI (by omega) eX_63 rfl hv dX3_isAhead_21 ?_
      refine lv_aload_n hx hb dX3_isAhead_22 rfl (lv_at hl 0 rfl) ?_
      refine xg_get (C := RX3) (T := TX3) (M := 6) hx hb hown hG hI (by omega) eX_61 rfl inX3 4 (by decide) kf_X3_38 rfl dX3_isAhead_23 ?_
      refine lv_iload_n hx hb dX3_isAhead_26 rfl (lv_at hl 2 rfl) ?_
      obtain ⟨v4, hv, hE⟩ := bd1_some hE
      refine xg_iald 0 hx hb hG hI (by omega) eX_63 rfl hv dX3_isAhead_27 ?_
      refine lv_icmp_lt (tgt := 51) hx hb dX3_isAhead_28 (by decide) (fun c28 => ?_) (fun c28 => ?_)
      · rw [if_pos c28] at hE
        refine lv_iconst (v := 1) hx hb dX3_isAhead_51 (by decide) ?_
        refine lv_goto (tgt := 56) hx hb dX3_isAhead_52 (by decide) ?_
        obtain rfl := sm1 hE
        exact xr_z rfl hx hb hr hlk hG hI dX3_isAhead_56
      · rw [if_neg c28] at hE
        refine lv_aload_n hx hb dX3_isAhead_31 rfl (lv_at hl 0 rfl) ?_
        refine xg_get (C := RX3) (T := TX3) (M := 6) hx hb hown hG hI (by omega) eX_61 rfl inX3 4 (by decide) kf_X3_38 rfl dX3_isAhead_32 ?_
        refine lv_iload_n hx hb dX3_isAhead_35 rfl (lv_at hl 1 rfl) ?_
        obtain ⟨v5, hv, hE⟩ := bd1_some hE
        refine xg_iald 0 hx hb hG hI (by omega) eX_63 rfl hv dX3_isAhead_36 ?_
        refine lv_aload_n hx hb dX3_isAhead_37 rfl (lv_at hl 0 rfl) ?_
        refine xg_get (C := RX3) (T := TX3) (M := 6) hx hb hown hG hI (by omega) eX_61 rfl inX3 4 (by decide) kf_X3_38 rfl dX3_isAhead_38 ?_
        refine lv_iload_n hx hb dX3_isAhead_41 rfl (lv_at hl 2 rfl) ?_
        obtain ⟨v6, hv, hE⟩ := bd1_some hE
        refine xg_iald 0 hx hb hG hI (by omega) eX_63 rfl hv dX3_isAhead_42 ?_
        refine lv_icmp_ne (tgt := 55) hx hb dX3_isAhead_43 (by decide) (fun c43 => ?_) (fun c43 => ?_)
        · rw [if_neg c43] at hE
          refine lv_iconst (v := 0) hx hb dX3_isAhead_55 (by decide) ?_
          obtain rfl := sm1 hE
          exact xr_z rfl hx hb hr hlk hG hI dX3_isAhead_56
        · rw [if_pos c43] at hE
          refine lv_iload_n hx hb dX3_isAhead_46 rfl (lv_at hl 1 rfl) ?_
          refine lv_iload_n hx hb dX3_isAhead_47 rfl (lv_at hl 2 rfl) ?_
          refine lv_icmp_ge (tgt := 55) hx hb dX3_isAhead_48 (by decide) (fun c48 => ?_) (fun c48 => ?_)
          · rw [if_pos c48] at hE
            refine lv_iconst (v := 0) hx hb dX3_isAhead_55 (by decide) ?_
            obtain rfl := sm1 hE
            exact xr_z rfl hx hb hr hlk hG hI dX3_isAhead_56
          · rw [if_neg c48] at hE
            refine lv_iconst (v := 1) hx hb dX3_isAhead_51 (by decide) ?_
            refine lv_goto (tgt := 56) hx hb dX3_isAhead_52 (by decide) ?_
            obtain rfl := sm1 hE
            exact xr_z rfl hx hb hr hlk hG hI dX3_isAhead_56
    · rw [if_pos c11] at hE
      refine lv_iconst (v := 0) hx hb dX3_isAhead_14 (by decide) ?_
      obtain rfl := sm1 hE
      exact xr_z rfl hx hb hr hlk hG hI dX3_isAhead_15
def X3_countAhead_L15 (p1 : Int32) (u : Mem) (r1 : Int32) : Nat → Int32 → Int32 → Option (Int32)
  | 0, _, _ => none
  | n15 + 1, x2, x3 =>
    (if 16 ≤ x3 then some x2 else (X4_isChild (u 49) x3 r1 : Option Bool).bind fun (r6 : Bool) => ((if (b2i r6) = 0 then some 0 else (X3_isAhead u x3 p1 : Option Bool).bind fun (r9 : Bool) => (if (b2i r9) = 0 then some 0 else some 1)) : Option Int32).bind fun (x7 : Int32) => X3_countAhead_L15 p1 u r1 n15 (x2 + x7) (x3 + 1))
def X3_countAhead (u : Mem) (p1 : Int32) : Option (Int32) :=
  (X4_trait (u 49) p1 0 : Option Int32).bind fun (r1 : Int32) => (X3_countAhead_L15 p1 u r1 fu 0 1 : Option Int32).bind fun (x4 : Int32) => some x4
set_option maxHeartbeats 4000000 in
set_option maxRecDepth 100000 in
theorem c_X3_countAhead {l : Launch} {D : va_G} {A : Nat → Nat} {cI cZ cD : ClassId} {u : Mem} {p1 : Int32} {r : Int32}  (hE : X3_countAhead u p1 = some (r)) : Ct l yX3_countAhead cX3_countAhead 5 (some .int) (rmOf 2 42) D (tyL cI cZ cD) [.ref (A 61), .int p1] (wX A cI cZ cD u) (some (.int r)) (wX A cI cZ cD u) := by
  refine Ct.ofW (by decide +kernel) (fun p e s m below meth c hC hI => ?_)
  obtain ⟨hx, hb, hml, hown, hr, hlk, hG⟩ := hC
  have hown : s.vm.findClass RX3 = some m.cls := hown
  have hl := lv_entry ([.ref (A 61), .int p1] : List Value) (n := 5) (Nat.le_of_ble_eq_true rfl)
  rw [lg_entry_eq]
  generalize (lg_sl ([.ref (A 61), .int p1] : List Value) ++ List.replicate (5 - (lg_sl ([.ref (A 61), .int p1] : List Value)).length) Slot.unset).toArray = ls at hl ⊢
  have hl : lv_has ls 5 [(0, .ref (A 61)), (1, .int p1)] := hl
  unfold X3_countAhead at hE
  refine lv_iconst (v := 0) hx hb dX3_countAhead_0 (by decide) ?_
  refine lv_istore_n (lv' := [(2, .int 0), (0, .ref (A 61)), (1, .int p1)]) hx hb dX3_countAhead_1 rfl hl (by decide) rfl (fun ls hl => ?_)
  refine lv_aload_n hx hb dX3_countAhead_2 rfl (lv_at hl 1 rfl) ?_
  refine xg_get (C := RX3) (T := TX3) (M := 6) hx hb hown hG hI (by omega) eX_61 rfl inX3 1 (by decide) kf_X3_21 rfl dX3_countAhead_3 ?_
  refine lv_iload_n hx hb dX3_countAhead_6 rfl (lv_at hl 2 rfl) ?_
  refine lv_iconst (v := 0) hx hb dX3_countAhead_7 (by decide) ?_
  obtain ⟨r1, hc, hE⟩ := bd1_some hE
  refine xc_V1 (rest := []) (Ct.toXr (j := 24) (by omega) (c_X4_trait (OKX (j := 24) (by omega)) hc)) mw_X4_trait km_X3_103 hx hb hml hown hG hI xA_of (wG_atE (by omega) (eX_O (j := 24) (by omega))) rfl rfl ⟨Nat.le_of_ble_eq_true rfl, Nat.le_of_ble_eq_true rfl⟩ rfl hl.1 rfl (Nat.le_of_ble_eq_true rfl) dX3_countAhead_8 (fun H locs hI => ?_)
  refine lv_istore_n (lv' := [(3, .int r1), (2, .int 0), (0, .ref (A 61)), (1, .int p1)]) hx hb dX3_countAhead_11 rfl hl (by decide) rfl (fun ls hl => ?_)
  refine lv_iconst (v := 1) hx hb dX3_countAhead_12 (by decide) ?_
  refine lv_istore (lv' := [(4, .int 1), (3, .int r1), (2, .int 0), (0, .ref (A 61)), (1, .int p1)]) hx hb dX3_countAhead_13 hl (by decide) rfl (fun ls hl => ?_)
  obtain ⟨x4, hZ, hE⟩ := bd1_some hE
  have hX15_4 : ∀ (H : Heap) (locs : List Loc) (ls : Array Slot), xI D (va_A (wX A cI cZ cD u) s.heap.size) s.heap (wX A cI cZ cD u) H locs → lv_has ls 5 [(2, .int x4)] → W p l e (rmOf 2 42) s m ([.ref (A 61), .int p1] : List Value).toArray below meth c H locs 0 0 (xQ D (tyL cI cZ cD) below ([.ref (A 61), .int p1] : List Value).toArray s (wX A cI cZ cD u) (some (.int r)) (wX A cI cZ cD u)) (F0 m 59 ls []) := by
    intro H locs ls hI hl
    clear hZ
    refine lv_iload_n hx hb dX3_countAhead_59 rfl (lv_at hl 0 rfl) ?_
    obtain rfl := sm1 hE
    exact xr_i hx hb hr hlk hG hI dX3_countAhead_60
  replace hE := hZ
  clear hZ
  have hL15 : ∀ (n15 : Nat) (x2 : Int32) (x3 : Int32) (H : Heap) (locs : List Loc) (ls : Array Slot), X3_countAhead_L15 p1 u r1 n15 x2 x3 = some x4 → xI D (va_A (wX A cI cZ cD u) s.heap.size) s.heap (wX A cI cZ cD u) H locs → lv_has ls 5 [(0, .ref (A 61)), (1, .int p1), (2, .int x2), (3, .int r1), (4, .int x3)] → W p l e (rmOf 2 42) s m ([.ref (A 61), .int p1] : List Value).toArray below meth c H locs 0 0 (xQ D (tyL cI cZ cD) below ([.ref (A 61), .int p1] : List Value).toArray s (wX A cI cZ cD u) (some (.int r)) (wX A cI cZ cD u)) (F0 m 15 ls []) := by
    intro n15
    induction n15 with
    | zero =>
      intro x2 x3 H locs ls hE
      exact absurd hE (by simp [X3_countAhead_L15])
    | succ n15 ih15 =>
      intro x2 x3 H locs ls hE hI hl
      rw [X3_countAhead_L15] at hE
      refine lv_iload hx hb dX3_countAhead_15 (lv_at hl 4 rfl) ?_
      refine lv_bipush (v := 16) hx hb dX3_countAhead_17 (by decide) ?_
      refine lv_icmp_ge (tgt := 59) hx hb dX3_countAhead_19 (by decide) (fun c19 => ?_) (fun c19 => ?_)
      · rw [if_pos c19] at hE
        obtain rfl := sm1 hE
        exact hX15_4 _ _ _ hI (lv_sub hl [2] rfl)
      · rw [if_neg c19] at hE
        refine lv_iload_n hx hb dX3_countAhead_22 rfl (lv_at hl 2 rfl) ?_
        refine lv_aload_n hx hb dX3_countAhead_23 rfl (lv_at hl 0 rfl) ?_
        refine xg_get (C := RX3) (T := TX3) (M := 6) hx hb hown hG hI (by omega) eX_61 rfl inX3 1 (by decide) kf_X3_21 rfl dX3_countAhead_24 ?_
        refine lv_iload hx hb dX3_countAhead_27 (lv_at hl 4 rfl) ?_
        refine lv_iload_n hx hb dX3_countAhead_29 rfl (lv_at hl 3 rfl) ?_
        obtain ⟨r6, hc, hE⟩ := bd1_some hE
        refine xc_V1 (rest := [.int x2]) (Ct.toXr (j := 24) (by omega) (c_X4_isChild (OKX (j := 24) (by omega)) hc)) mw_X4_isChild km_X3_107 hx hb hml hown hG hI xA_of (wG_atE (by omega) (eX_O (j := 24) (by omega))) rfl rfl ⟨Nat.le_of_ble_eq_true rfl, Nat.le_of_ble_eq_true rfl⟩ rfl hl.1 rfl (Nat.le_of_ble_eq_true rfl) dX3_countAhead_30 (fun H locs hI => ?_)
        obtain ⟨x7, hZ, hE⟩ := bd1_some hE
        have hJ51_7 : ∀ (H : Heap) (locs : List Loc) (ls : Array Slot), xI D (va_A (wX A cI cZ cD u) s.heap.size) s.heap (wX A cI cZ cD u) H locs → lv_has ls 5 [(0, .ref (A 61)), (1, .int p1), (3, .int r1), (4, .int x3)] → W p l e (rmOf 2 42) s m ([.ref (A 61), .int p1] : List Value).toArray below meth c H locs 0 0 (xQ D (tyL cI cZ cD) below ([.ref (A 61), .int p1] : List Value).toArray s (wX A cI cZ cD u) (some (.int r)) (wX A cI cZ cD u)) (F0 m 51 ls [.int x7, .int x2]) := by
          intro H locs ls hI hl
          clear hZ
          refine lv_iadd hx hb dX3_countAhead_51 ?_
          refine lv_istore_n (lv' := [(2, .int (x2 + x7)), (0, .ref (A 61)), (1, .int p1), (3, .int r1), (4, .int x3)]) hx hb dX3_countAhead_52 rfl hl (by decide) rfl (fun ls hl => ?_)
          refine lv_iinc (v := x3 + 1) (lv' := [(4, .int (x3 + 1)), (2, .int (x2 + x7)), (0, .ref (A 61)), (1, .int p1), (3, .int r1)]) hx hb dX3_countAhead_53 hl (k := 4) rfl rfl (by decide) rfl (fun ls hl => ?_)
          refine lv_goto (tgt := 15) hx hb dX3_countAhead_56 (by decide) ?_
          exact ih15 _ _ _ _ _ hE hI (lv_sub hl [2, 3, 1, 4, 0] rfl)
        replace hE := hZ
        clear hZ
        refine lv_if_eq (tgt := 50) hx hb dX3_countAhead_33 (by decide) (fun c33 => ?_) (fun c33 => ?_)
        · rw [if_pos c33] at hE
          refine lv_iconst (v := 0) hx hb dX3_countAhead_50 (by decide) ?_
          obtain rfl := sm1 hE
          exact hJ51_7 _ _ _ hI (lv_sub hl [0, 1, 3, 4] rfl)
        · rw [if_neg c33] at hE
          refine lv_aload_n hx hb dX3_countAhead_36 rfl (lv_at hl 0 rfl) ?_
          refine lv_iload hx hb dX3_countAhead_37 (lv_at hl 4 rfl) ?_
          refine lv_iload_n hx hb dX3_countAhead_39 rfl (lv_at hl 1 rfl) ?_
          obtain ⟨r9, hc, hE⟩ := bd1_some hE
          refine xc_V1 (rest := [.int x2]) (c_X3_isAhead hc) mw_X3_isAhead km_X3_157 hx hb hml hown hG hI xA_of (wG_atE (by omega) eX_61) rfl rfl ⟨Nat.le_of_ble_eq_true rfl, Nat.le_of_ble_eq_true rfl⟩ rfl hl.1 rfl (Nat.le_of_ble_eq_true rfl) dX3_countAhead_40 (fun H locs hI => ?_)
          refine lv_if_eq (tgt := 50) hx hb dX3_countAhead_43 (by decide) (fun c43 => ?_) (fun c43 => ?_)
          · rw [if_pos c43] at hE
            refine lv_iconst (v := 0) hx hb dX3_countAhead_50 (by decide) ?_
            obtain rfl := sm1 hE
            exact hJ51_7 _ _ _ hI (lv_sub hl [0, 1, 3, 4] rfl)
          · rw [if_neg c43] at hE
            refine lv_iconst (v := 1) hx hb dX3_countAhead_46 (by decide) ?_
            refine lv_goto (tgt := 51) hx hb dX3_countAhead_47 (by decide) ?_
            obtain rfl := sm1 hE
            exact hJ51_7 _ _ _ hI (lv_sub hl [0, 1, 3, 4] rfl)
  exact hL15 _ _ _ _ _ _ hE hI (lv_sub hl [3, 4, 2, 1, 0] rfl)
def X3_orderChildren_L27 : Nat → Int32 → Mem → Option (Mem)
  | 0, _, _ => none
  | n27 + 1, x5, mu6 =>
    (if 16 ≤ x5 then some mu6 else (X4_holds (mu6 49) x5 : Option Bool).bind fun (r9 : Bool) => (if (b2i r9) = 0 then X3_orderChildren_L27 n27 (x5 + 1) mu6 else (X3_countAhead mu6 x5 : Option Int32).bind fun (r10 : Int32) => (stO mu6 49 (X4_put (mu6 49) x5 1 r10) : Option Mem).bind fun (mu11 : Mem) => X3_orderChildren_L27 n27 (x5 + 1) mu11))
def X3_orderChildren_L2 : Nat → Int32 → Mem → Option (Mem)
  | 0, _, _ => none
  | n2 + 1, x1, mu2 =>
    (if 16 ≤ x1 then some mu2 else (X3_keyOf mu2 x1 : Option Int32).bind fun (r12 : Int32) => (stI 16 mu2 63 x1 r12).bind fun mu13 => X3_orderChildren_L2 n2 (x1 + 1) mu13)
def X3_orderChildren (u : Mem) : Option (Mem) :=
  (X3_orderChildren_L2 fu 1 u : Option Mem).bind fun (mu3 : Mem) => (X3_orderChildren_L27 fu 1 mu3 : Option Mem).bind fun (mu7 : Mem) => some mu7
set_option maxHeartbeats 4000000 in
set_option maxRecDepth 100000 in
theorem c_X3_orderChildren {l : Launch} {D : va_G} {A : Nat → Nat} {cI cZ cD : ClassId} {u u1 : Mem}  (hE : X3_orderChildren u = some (u1)) : Ct l yX3_orderChildren cX3_orderChildren 2 none (rmOf 3 66) D (tyL cI cZ cD) [.ref (A 61)] (wX A cI cZ cD u) none (wX A cI cZ cD u1) := by
  refine Ct.ofW (by decide +kernel) (fun p e s m below meth c hC hI => ?_)
  obtain ⟨hx, hb, hml, hown, hr, hlk, hG⟩ := hC
  have hown : s.vm.findClass RX3 = some m.cls := hown
  have hl := lv_entry ([.ref (A 61)] : List Value) (n := 2) (Nat.le_of_ble_eq_true rfl)
  rw [lg_entry_eq]
  generalize (lg_sl ([.ref (A 61)] : List Value) ++ List.replicate (2 - (lg_sl ([.ref (A 61)] : List Value)).length) Slot.unset).toArray = ls at hl ⊢
  have hl : lv_has ls 2 [(0, .ref (A 61))] := hl
  unfold X3_orderChildren at hE
  refine lv_iconst (v := 1) hx hb dX3_orderChildren_0 (by decide) ?_
  refine lv_istore_n (lv' := [(1, .int 1), (0, .ref (A 61))]) hx hb dX3_orderChildren_1 rfl hl (by decide) rfl (fun ls hl => ?_)
  obtain ⟨mu3, hZ, hE⟩ := bd1_some hE
  have hX2_3 : ∀ (H : Heap) (locs : List Loc) (ls : Array Slot), xI D (va_A (wX A cI cZ cD u) s.heap.size) s.heap (wX A cI cZ cD mu3) H locs → lv_has ls 2 [(0, .ref (A 61))] → W p l e (rmOf 3 66) s m ([.ref (A 61)] : List Value).toArray below meth c H locs 0 0 (xQ D (tyL cI cZ cD) below ([.ref (A 61)] : List Value).toArray s (wX A cI cZ cD u) none (wX A cI cZ cD u1)) (F0 m 25 ls []) := by
    intro H locs ls hI hl
    clear hZ
    refine lv_iconst (v := 1) hx hb dX3_orderChildren_25 (by decide) ?_
    refine lv_istore_n (lv' := [(1, .int 1), (0, .ref (A 61))]) hx hb dX3_orderChildren_26 rfl hl (by decide) rfl (fun ls hl => ?_)
    obtain ⟨mu7, hZ, hE⟩ := bd1_some hE
    have hX27_7 : ∀ (H : Heap) (locs : List Loc) (ls : Array Slot), xI D (va_A (wX A cI cZ cD u) s.heap.size) s.heap (wX A cI cZ cD mu7) H locs → lv_has ls 2 [] → W p l e (rmOf 3 66) s m ([.ref (A 61)] : List Value).toArray below meth c H locs 0 0 (xQ D (tyL cI cZ cD) below ([.ref (A 61)] : List Value).toArray s (wX A cI cZ cD u) none (wX A cI cZ cD u1)) (F0 m 64 ls []) := by
      intro H locs ls hI hl
      clear hZ
      obtain rfl := sm1 hE
      exact xr_v hx hb hr hlk hG hI dX3_orderChildren_64
    replace hE := hZ
    clear hZ
    have hL27 : ∀ (n27 : Nat) (x5 : Int32) (mu6 : Mem) (H : Heap) (locs : List Loc) (ls : Array Slot), X3_orderChildren_L27 n27 x5 mu6 = some mu7 → xI D (va_A (wX A cI cZ cD u) s.heap.size) s.heap (wX A cI cZ cD mu6) H locs → lv_has ls 2 [(0, .ref (A 61)), (1, .int x5)] → W p l e (rmOf 3 66) s m ([.ref (A 61)] : List Value).toArray below meth c H locs 0 0 (xQ D (tyL cI cZ cD) below ([.ref (A 61)] : List Value).toArray s (wX A cI cZ cD u) none (wX A cI cZ cD u1)) (F0 m 27 ls []) := by
      intro n27
      induction n27 with
      | zero =>
        intro x5 mu6 H locs ls hE
        exact absurd hE (by simp [X3_orderChildren_L27])
      | succ n27 ih27 =>
        intro x5 mu6 H locs ls hE hI hl
        rw [X3_orderChildren_L27] at hE
        refine lv_iload_n hx hb dX3_orderChildren_27 rfl (lv_at hl 1 rfl) ?_
        refine lv_bipush (v := 16) hx hb dX3_orderChildren_28 (by decide) ?_
        refine lv_icmp_ge (tgt := 64) hx hb dX3_orderChildren_30 (by decide) (fun c30 => ?_) (fun c30 => ?_)
        · rw [if_pos c30] at hE
          obtain rfl := sm1 hE
          exact hX27_7 _ _ _ hI (lv_sub hl [] rfl)
        · rw [if_neg c30] at hE
          refine lv_aload_n hx hb dX3_orderChildren_33 rfl (lv_at hl 0 rfl) ?_
          refine xg_get (C := RX3) (T := TX3) (M := 6) hx hb hown hG hI (by omega) eX_61 rfl inX3 1 (by decide) kf_X3_21 rfl dX3_orderChildren_34 ?_
          refine lv_iload_n hx hb dX3_orderChildren_37 rfl (lv_at hl 1 rfl) ?_
          obtain ⟨r9, hc, hE⟩ := bd1_some hE
          refine xc_V1 (rest := []) (Ct.toXr (j := 24) (by omega) (c_X4_holds (OKX (j := 24) (by omega)) hc)) mw_X4_holds km_X3_75 hx hb hml hown hG hI xA_of (wG_atE (by omega) (eX_O (j := 24) (by omega))) rfl rfl ⟨Nat.le_of_ble_eq_true rfl, Nat.le_of_ble_eq_true rfl⟩ rfl hl.1 rfl (Nat.le_of_ble_eq_true rfl) dX3_orderChildren_38 (fun H locs hI => ?_)
          refine lv_if_eq (tgt := 58) hx hb dX3_orderChildren_41 (by decide) (fun c41 => ?_) (fun c41 => ?_)
          · rw [if_pos c41] at hE
            refine lv_iinc (v := x5 + 1) (lv' := [(1, .int (x5 + 1)), (0, .ref (A 61))]) hx hb dX3_orderChildren_58 hl (k := 1) rfl rfl (by decide) rfl (fun ls hl => ?_)
            refine lv_goto (tgt := 27) hx hb dX3_orderChildren_61 (by decide) ?_
            exact ih27 _ _ _ _ _ hE hI (lv_sub hl [1, 0] rfl)
          · rw [if_neg c41] at hE
            refine lv_aload_n hx hb dX3_orderChildren_44 rfl (lv_at hl 0 rfl) ?_
            refine xg_get (C := RX3) (T := TX3) (M := 6) hx hb hown hG hI (by omega) eX_61 rfl inX3 1 (by decide) kf_X3_21 rfl dX3_orderChildren_45 ?_
            refine lv_iload_n hx hb dX3_orderChildren_48 rfl (lv_at hl 1 rfl) ?_
            refine lv_iconst (v := 1) hx hb dX3_orderChildren_49 (by decide) ?_
            refine lv_aload_n hx hb dX3_orderChildren_50 rfl (lv_at hl 0 rfl) ?_
            refine lv_iload_n hx hb dX3_orderChildren_51 rfl (lv_at hl 1 rfl) ?_
            obtain ⟨r10, hc, hE⟩ := bd1_some hE
            refine xc_V1 (rest := [.int 1, .int x5, .ref (A 24)]) (c_X3_countAhead hc) mw_X3_countAhead km_X3_154 hx hb hml hown hG hI xA_of (wG_atE (by omega) eX_61) rfl rfl ⟨Nat.le_of_ble_eq_true rfl, Nat.le_of_ble_eq_true rfl⟩ rfl hl.1 rfl (Nat.le_of_ble_eq_true rfl) dX3_orderChildren_52 (fun H locs hI => ?_)
            obtain ⟨mu11, hc, hE⟩ := bd1_some hE
            obtain ⟨ff, hf, hu⟩ := stO_some hc
            refine xc_V0 (rest := []) (Ct.toXw (j := 24) (by omega) hu (c_X4_put (OKX (j := 24) (by omega)) hf)) mw_X4_put km_X3_115 hx hb hml hown hG hI xA_of (wG_atE (by omega) (eX_O (j := 24) (by omega))) rfl rfl ⟨Nat.le_of_ble_eq_true rfl, Nat.le_of_ble_eq_true rfl⟩ rfl hl.1 rfl (Nat.le_of_ble_eq_true rfl) dX3_orderChildren_55 (fun H locs hI => ?_)
            refine lv_iinc (v := x5 + 1) (lv' := [(1, .int (x5 + 1)), (0, .ref (A 61))]) hx hb dX3_orderChildren_58 hl (k := 1) rfl rfl (by decide) rfl (fun ls hl => ?_)
            refine lv_goto (tgt := 27) hx hb dX3_orderChildren_61 (by decide) ?_
            exact ih27 _ _ _ _ _ hE hI (lv_sub hl [1, 0] rfl)
    exact hL27 _ _ _ _ _ _ hE hI (lv_sub hl [1, 0] rfl)
  replace hE := hZ
  clear hZ
  have hL2 : ∀ (n2 : Nat) (x1 : Int32) (mu2 : Mem) (H : Heap) (locs : List Loc) (ls : Array Slot), X3_orderChildren_L2 n2 x1 mu2 = some mu3 → xI D (va_A (wX A cI cZ cD u) s.heap.size) s.heap (wX A cI cZ cD mu2) H locs → lv_has ls 2 [(0, .ref (A 61)), (1, .int x1)] → W p l e (rmOf 3 66) s m ([.ref (A 61)] : List Value).toArray below meth c H locs 0 0 (xQ D (tyL cI cZ cD) below ([.ref (A 61)] : List Value).toArray s (wX A cI cZ cD u) none (wX A cI cZ cD u1)) (F0 m 2 ls []) := by
    intro n2
    induction n2 with
    | zero =>
      intro x1 mu2 H locs ls hE
      exact absurd hE (by simp [X3_orderChildren_L2])
    | succ n2 ih2 =>
      intro x1 mu2 H locs ls hE hI hl
      rw [X3_orderChildren_L2] at hE
      refine lv_iload_n hx hb dX3_orderChildren_2 rfl (lv_at hl 1 rfl) ?_
      refine lv_bipush (v := 16) hx hb dX3_orderChildren_3 (by decide) ?_
      refine lv_icmp_ge (tgt := 25) hx hb dX3_orderChildren_5 (by decide) (fun c5 => ?_) (fun c5 => ?_)
      · rw [if_pos c5] at hE
        obtain rfl := sm1 hE
        exact hX2_3 _ _ _ hI (lv_sub hl [0] rfl)
      · rw [if_neg c5] at hE
        refine lv_aload_n hx hb dX3_orderChildren_8 rfl (lv_at hl 0 rfl) ?_
        refine xg_get (C := RX3) (T := TX3) (M := 6) hx hb hown hG hI (by omega) eX_61 rfl inX3 4 (by decide) kf_X3_38 rfl dX3_orderChildren_9 ?_
        refine lv_iload_n hx hb dX3_orderChildren_12 rfl (lv_at hl 1 rfl) ?_
        refine lv_aload_n hx hb dX3_orderChildren_13 rfl (lv_at hl 0 rfl) ?_
        refine lv_iload_n hx hb dX3_orderChildren_14 rfl (lv_at hl 1 rfl) ?_
        obtain ⟨r12, hc, hE⟩ := bd1_some hE
        refine xc_V1 (rest := [.int x1, .ref (A 63)]) (c_X3_keyOf hc) mw_X3_keyOf km_X3_151 hx hb hml hown hG hI xA_of (wG_atE (by omega) eX_61) rfl rfl ⟨Nat.le_of_ble_eq_true rfl, Nat.le_of_ble_eq_true rfl⟩ rfl hl.1 rfl (Nat.le_of_ble_eq_true rfl) dX3_orderChildren_15 (fun H locs hI => ?_)
        obtain ⟨mu13, hv, hE⟩ := bd1_some hE
        refine xg_iast 0 hx hb hG hI (by omega) eX_63 rfl hv dX3_orderChildren_18 (fun H locs hI => ?_)
        refine lv_iinc (v := x1 + 1) (lv' := [(1, .int (x1 + 1)), (0, .ref (A 61))]) hx hb dX3_orderChildren_19 hl (k := 1) rfl rfl (by decide) rfl (fun ls hl => ?_)
        refine lv_goto (tgt := 2) hx hb dX3_orderChildren_22 (by decide) ?_
        exact ih2 _ _ _ _ _ hE hI (lv_sub hl [1, 0] rfl)
  exact hL2 _ _ _ _ _ _ hE hI (lv_sub hl [1, 0] rfl)
def X3_refresh (u : Mem) (p1 : Nat) : Option (Mem) :=
  (if (u 61 5) = 0 then some u else (stF u 61 5 0).bind fun mu1 => (X0_copyFrom mu1 7 p1 : Option Mem).bind fun (mu2 : Mem) => (stO mu2 49 (X4_reset (mu2 49)) : Option Mem).bind fun (mu3 : Mem) => (X6_wipe mu3 0 : Option Mem).bind fun (mu4 : Mem) => (X3_chooseSections mu4 : Option Mem).bind fun (mu5 : Mem) => (X3_chooseTraits mu5 2 0 : Option Mem).bind fun (mu6 : Mem) => (X3_chooseTraits mu6 3 1 : Option Mem).bind fun (mu7 : Mem) => (X3_chooseTraits mu7 0 2 : Option Mem).bind fun (mu8 : Mem) => (X3_rehang mu8 : Option Mem).bind fun (mu9 : Mem) => (X3_undoRings mu9 : Option Mem).bind fun (mu10 : Mem) => (X3_orderChildren mu10 : Option Mem).bind fun (mu11 : Mem) => some mu11)
set_option maxHeartbeats 4000000 in
set_option maxRecDepth 100000 in
theorem c_X3_refresh {l : Launch} {D : va_G} {A : Nat → Nat} {cI cZ cD : ClassId} {u u1 : Mem} {p1 : Nat} (hp1 : p1 < 8) (hE : X3_refresh u p1 = some (u1)) : Ct l yX3_refresh cX3_refresh 2 none (rmOf 4 95) D (tyL cI cZ cD) [.ref (A 61), .ref (A (50 + p1))] (wX A cI cZ cD u) none (wX A cI cZ cD u1) := by
  refine Ct.ofW (by decide +kernel) (fun p e s m below meth c hC hI => ?_)
  obtain ⟨hx, hb, hml, hown, hr, hlk, hG⟩ := hC
  have hown : s.vm.findClass RX3 = some m.cls := hown
  have hl := lv_entry ([.ref (A 61), .ref (A (50 + p1))] : List Value) (n := 2) (Nat.le_of_ble_eq_true rfl)
  rw [lg_entry_eq]
  generalize (lg_sl ([.ref (A 61), .ref (A (50 + p1))] : List Value) ++ List.replicate (2 - (lg_sl ([.ref (A 61), .ref (A (50 + p1))] : List Value)).length) Slot.unset).toArray = ls at hl ⊢
  have hl : lv_has ls 2 [(0, .ref (A 61)), (1, .ref (A (50 + p1)))] := hl
  unfold X3_refresh at hE
  refine lv_aload_n hx hb dX3_refresh_0 rfl (lv_at hl 0 rfl) ?_
  refine xg_get (C := RX3) (T := TX3) (M := 6) hx hb hown hG hI (by omega) eX_61 rfl inX3 5 (by decide) kf_X3_42 rfl dX3_refresh_1 ?_
  refine lv_if_ne (tgt := 8) hx hb dX3_refresh_4 (by decide) (fun c4 => ?_) (fun c4 => ?_)
  · rw [if_neg c4] at hE
    refine lv_aload_n hx hb dX3_refresh_8 rfl (lv_at hl 0 rfl) ?_
    refine lv_iconst (v := 0) hx hb dX3_refresh_9 (by decide) ?_
    obtain ⟨mu1, hu, hE⟩ := bd1_some hE
    refine xg_put (C := RX3) (T := TX3) (M := 6) hx hb hown hG hI (by omega) eX_61 rfl inX3 tyX3 tyX3_ok nmX3 5 (by decide) kf_X3_42 rfl (ty := .boolean) (by decide +kernel) (by decide +kernel) (by decide +kernel) (Nat.le_of_ble_eq_true rfl) rfl hu dX3_refresh_10 (fun H locs hI => ?_)
    refine lv_aload_n hx hb dX3_refresh_13 rfl (lv_at hl 0 rfl) ?_
    refine xg_get (C := RX3) (T := TX3) (M := 6) hx hb hown hG hI (by omega) eX_61 rfl inX3 0 (by decide) kf_X3_12 rfl dX3_refresh_14 ?_
    refine lv_aload_n hx hb dX3_refresh_17 rfl (lv_at hl 1 rfl) ?_
    obtain ⟨mu2, hc, hE⟩ := bd1_some hE
    refine xc_V0 (rest := []) (c_X0_copyFrom (by omega) (by omega) hc) mw_X0_copyFrom km_X3_46 hx hb hml hown hG hI xA_of (wG_atE (by omega) (eX_D (d := 7) (by omega))) rfl rfl ⟨Nat.le_of_ble_eq_true rfl, Nat.le_of_ble_eq_true rfl⟩ rfl hl.1 rfl (Nat.le_of_ble_eq_true rfl) dX3_refresh_18 (fun H locs hI => ?_)
    refine lv_aload_n hx hb dX3_refresh_21 rfl (lv_at hl 0 rfl) ?_
    refine xg_get (C := RX3) (T := TX3) (M := 6) hx hb hown hG hI (by omega) eX_61 rfl inX3 1 (by decide) kf_X3_21 rfl dX3_refresh_22 ?_
    obtain ⟨mu3, hc, hE⟩ := bd1_some hE
    obtain ⟨ff, hf, hu⟩ := stO_some hc
    refine xc_V0 (rest := []) (Ct.toXw (j := 24) (by omega) hu (c_X4_reset (OKX (j := 24) (by omega)) hf)) mw_X4_reset km_X3_50 hx hb hml hown hG hI xA_of (wG_atE (by omega) (eX_O (j := 24) (by omega))) rfl rfl ⟨Nat.le_of_ble_eq_true rfl, Nat.le_of_ble_eq_true rfl⟩ rfl hl.1 rfl (Nat.le_of_ble_eq_true rfl) dX3_refresh_25 (fun H locs hI => ?_)
    refine lv_aload_n hx hb dX3_refresh_28 rfl (lv_at hl 0 rfl) ?_
    refine xg_get (C := RX3) (T := TX3) (M := 6) hx hb hown hG hI (by omega) eX_61 rfl inX3 2 (by decide) kf_X3_30 rfl dX3_refresh_29 ?_
    obtain ⟨mu4, hc, hE⟩ := bd1_some hE
    refine xc_V0 (rest := []) (c_X6_wipe (by omega) hc) mw_X6_wipe km_X3_53 hx hb hml hown hG hI xA_of (wG_atE (by omega) (eX_T (t := 0) (by omega))) rfl rfl ⟨Nat.le_of_ble_eq_true rfl, Nat.le_of_ble_eq_true rfl⟩ rfl hl.1 rfl (Nat.le_of_ble_eq_true rfl) dX3_refresh_32 (fun H locs hI => ?_)
    refine lv_aload_n hx hb dX3_refresh_35 rfl (lv_at hl 0 rfl) ?_
    obtain ⟨mu5, hc, hE⟩ := bd1_some hE
    refine xc_V0 (rest := []) (c_X3_chooseSections hc) mw_X3_chooseSections km_X3_56 hx hb hml hown hG hI xA_of (wG_atE (by omega) eX_61) rfl rfl ⟨Nat.le_of_ble_eq_true rfl, Nat.le_of_ble_eq_true rfl⟩ rfl hl.1 rfl (Nat.le_of_ble_eq_true rfl) dX3_refresh_36 (fun H locs hI => ?_)
    refine lv_aload_n hx hb dX3_refresh_39 rfl (lv_at hl 0 rfl) ?_
    refine lv_iconst (v := 2) hx hb dX3_refresh_40 (by decide) ?_
    refine lv_iconst (v := 0) hx hb dX3_refresh_41 (by decide) ?_
    obtain ⟨mu6, hc, hE⟩ := bd1_some hE
    refine xc_V0 (rest := []) (c_X3_chooseTraits hc) mw_X3_chooseTraits km_X3_59 hx hb hml hown hG hI xA_of (wG_atE (by omega) eX_61) rfl rfl ⟨Nat.le_of_ble_eq_true rfl, Nat.le_of_ble_eq_true rfl⟩ rfl hl.1 rfl (Nat.le_of_ble_eq_true rfl) dX3_refresh_42 (fun H locs hI => ?_)
    refine lv_aload_n hx hb dX3_refresh_45 rfl (lv_at hl 0 rfl) ?_
    refine lv_iconst (v := 3) hx hb dX3_refresh_46 (by decide) ?_
    refine lv_iconst (v := 1) hx hb dX3_refresh_47 (by decide) ?_
    obtain ⟨mu7, hc, hE⟩ := bd1_some hE
    refine xc_V0 (rest := []) (c_X3_chooseTraits hc) mw_X3_chooseTraits km_X3_59 hx hb hml hown hG hI xA_of (wG_atE (by omega) eX_61) rfl rfl ⟨Nat.le_of_ble_eq_true rfl, Nat.le_of_ble_eq_true rfl⟩ rfl hl.1 rfl (Nat.le_of_ble_eq_true rfl) dX3_refresh_48 (fun H locs hI => ?_)
    refine lv_aload_n hx hb dX3_refresh_51 rfl (lv_at hl 0 rfl) ?_
    refine lv_iconst (v := 0) hx hb dX3_refresh_52 (by decide) ?_
    refine lv_iconst (v := 2) hx hb dX3_refresh_53 (by decide) ?_
    obtain ⟨mu8, hc, hE⟩ := bd1_some hE
    refine xc_V0 (rest := []) (c_X3_chooseTraits hc) mw_X3_chooseTraits km_X3_59 hx hb hml hown hG hI xA_of (wG_atE (by omega) eX_61) rfl rfl ⟨Nat.le_of_ble_eq_true rfl, Nat.le_of_ble_eq_true rfl⟩ rfl hl.1 rfl (Nat.le_of_ble_eq_true rfl) dX3_refresh_54 (fun H locs hI => ?_)
    refine lv_aload_n hx hb dX3_refresh_57 rfl (lv_at hl 0 rfl) ?_
    obtain ⟨mu9, hc, hE⟩ := bd1_some hE
    refine xc_V0 (rest := []) (c_X3_rehang hc) mw_X3_rehang km_X3_63 hx hb hml hown hG hI xA_of (wG_atE (by omega) eX_61) rfl rfl ⟨Nat.le_of_ble_eq_true rfl, Nat.le_of_ble_eq_true rfl⟩ rfl hl.1 rfl (Nat.le_of_ble_eq_true rfl) dX3_refresh_58 (fun H locs hI => ?_)
    refine lv_aload_n hx hb dX3_refresh_61 rfl (lv_at hl 0 rfl) ?_
    obtain ⟨mu10, hc, hE⟩ := bd1_some hE
    refine xc_V0 (rest := []) (c_X3_undoRings hc) mw_X3_undoRings km_X3_66 hx hb hml hown hG hI xA_of (wG_atE (by omega) eX_61) rfl rfl ⟨Nat.le_of_ble_eq_true rfl, Nat.le_of_ble_eq_true rfl⟩ rfl hl.1 rfl (Nat.le_of_ble_eq_true rfl) dX3_refresh_62 (fun H locs hI => ?_)
    refine lv_aload_n hx hb dX3_refresh_65 rfl (lv_at hl 0 rfl) ?_
    obtain ⟨mu11, hc, hE⟩ := bd1_some hE
    refine xc_V0 (rest := []) (c_X3_orderChildren hc) mw_X3_orderChildren km_X3_69 hx hb hml hown hG hI xA_of (wG_atE (by omega) eX_61) rfl rfl ⟨Nat.le_of_ble_eq_true rfl, Nat.le_of_ble_eq_true rfl⟩ rfl hl.1 rfl (Nat.le_of_ble_eq_true rfl) dX3_refresh_66 (fun H locs hI => ?_)
    obtain rfl := sm1 hE
    exact xr_v hx hb hr hlk hG hI dX3_refresh_69
  · rw [if_pos c4] at hE
    obtain rfl := sm1 hE
    exact xr_v hx hb hr hlk hG hI dX3_refresh_7
