def X5_writeChange (u : Mem) (p1 : Nat) (p2 : Nat) (p3 : Int32) (p4 : Int32) (p5 : Int32) : Option (Mem) :=
  (X4_trait (u (25 + p2)) p3 p4 : Option Int32).bind fun (r1 : Int32) => (X4_trait (u (25 + p1)) p3 p4 : Option Int32).bind fun (r2 : Int32) => (if r1 = r2 then some u else (X6_tell u 1 p5 p3 (-1) : Option Mem).bind fun (mu3 : Mem) => some mu3)
set_option maxHeartbeats 4000000 in
set_option maxRecDepth 100000 in
theorem c_X5_writeChange {l : Launch} {D : va_G} {A : Nat → Nat} {cI cZ cD : ClassId} {u u1 : Mem} {p1 : Nat} {p2 : Nat} {p3 : Int32} {p4 : Int32} {p5 : Int32} (hp1 : p1 < 25) (hp2 : p2 < 25) (hE : X5_writeChange u p1 p2 p3 p4 p5 = some (u1)) : Ct l yX5_writeChange cX5_writeChange 6 none (rmOf 1 23) D (tyL cI cZ cD) [.ref (A 72), .ref (A p1), .ref (A p2), .int p3, .int p4, .int p5] (wX A cI cZ cD u) none (wX A cI cZ cD u1) := by
  refine Ct.ofW (by decide +kernel) (fun p e s m below meth c hC hI => ?_)
  obtain ⟨hx, hb, hml, hown, hr, hlk, hG⟩ := hC
  have hown : s.vm.findClass RX5 = some m.cls := hown
  have hl := lv_entry ([.ref (A 72), .ref (A p1), .ref (A p2), .int p3, .int p4, .int p5] : List Value) (n := 6) (Nat.le_of_ble_eq_true rfl)
  rw [lg_entry_eq]
  generalize (lg_sl ([.ref (A 72), .ref (A p1), .ref (A p2), .int p3, .int p4, .int p5] : List Value) ++ List.replicate (6 - (lg_sl ([.ref (A 72), .ref (A p1), .ref (A p2), .int p3, .int p4, .int p5] : List Value)).length) Slot.unset).toArray = ls at hl ⊢
  have hl : lv_has ls 6 [(0, .ref (A 72)), (1, .ref (A p1)), (2, .ref (A p2)), (3, .int p3), (4, .int p4), (5, .int p5)] := hl
  unfold X5_writeChange at hE
  refine lv_aload_n hx hb dX5_writeChange_0 rfl (lv_at hl 2 rfl) ?_
  refine lv_iload_n hx hb dX5_writeChange_1 rfl (lv_at hl 3 rfl) ?_
  refine lv_iload hx hb dX5_writeChange_2 (lv_at hl 4 rfl) ?_
  obtain ⟨r1, hc, hE⟩ := bd1_some hE
  refine xc_V1 (rest := []) (Ct.toXr (j := p2) (by omega) (c_X4_trait (OKX (j := p2) (by omega)) hc)) mw_X4_trait km_X5_37 hx hb hml hown hG hI xA_of (wG_atE (by omega) (eX_O (j := p2) (by omega))) rfl rfl ⟨Nat.le_of_ble_eq_true rfl, Nat.le_of_ble_eq_true rfl⟩ rfl hl.1 rfl (Nat.le_of_ble_eq_true rfl) dX5_writeChange_4 (fun H locs hI => ?_)
  refine lv_aload_n hx hb dX5_writeChange_7 rfl (lv_at hl 1 rfl) ?_
  refine lv_iload_n hx hb dX5_writeChange_8 rfl (lv_at hl 3 rfl) ?_
  refine lv_iload hx hb dX5_writeChange_9 (lv_at hl 4 rfl) ?_
  obtain ⟨r2, hc, hE⟩ := bd1_some hE
  refine xc_V1 (rest := [.int r1]) (Ct.toXr (j := p1) (by omega) (c_X4_trait (OKX (j := p1) (by omega)) hc)) mw_X4_trait km_X5_37 hx hb hml hown hG hI xA_of (wG_atE (by omega) (eX_O (j := p1) (by omega))) rfl rfl ⟨Nat.le_of_ble_eq_true rfl, Nat.le_of_ble_eq_true rfl⟩ rfl hl.1 rfl (Nat.le_of_ble_eq_true rfl) dX5_writeChange_11 (fun H locs hI => ?_)
  refine lv_icmp_eq (tgt := 28) hx hb dX5_writeChange_14 (by decide) (fun c14 => ?_) (fun c14 => ?_)
  · rw [if_pos c14] at hE
    obtain rfl := sm1 hE
    exact xr_v hx hb hr hlk hG hI dX5_writeChange_28
  · rw [if_neg c14] at hE
    refine lv_aload_n hx hb dX5_writeChange_17 rfl (lv_at hl 0 rfl) ?_
    refine xg_get (C := RX5) (T := TX5) (M := 1) hx hb hown hG hI (by omega) eX_72 rfl inX5 0 (by decide) kf_X5_14 rfl dX5_writeChange_18 ?_
    refine lv_iload hx hb dX5_writeChange_21 (lv_at hl 5 rfl) ?_
    refine lv_iload_n hx hb dX5_writeChange_23 rfl (lv_at hl 3 rfl) ?_
    refine lv_iconst (v := (-1)) hx hb dX5_writeChange_24 (by decide) ?_
    obtain ⟨mu3, hc, hE⟩ := bd1_some hE
    refine xc_V0 (rest := []) (c_X6_tell (by omega) hc) mw_X6_tell km_X5_33 hx hb hml hown hG hI xA_of (wG_atE (by omega) (eX_T (t := 1) (by omega))) rfl rfl ⟨Nat.le_of_ble_eq_true rfl, Nat.le_of_ble_eq_true rfl⟩ rfl hl.1 rfl (Nat.le_of_ble_eq_true rfl) dX5_writeChange_25 (fun H locs hI => ?_)
    obtain rfl := sm1 hE
    exact xr_v hx hb hr hlk hG hI dX5_writeChange_28
def X5_write_L9 (p1 : Nat) (p2 : Nat) : Nat → Int32 → Mem → Option (Mem)
  | 0, _, _ => none
  | n9 + 1, x2, mu3 =>
    (if 16 ≤ x2 then some mu3 else (X4_holds (mu3 (25 + p1)) x2 : Option Bool).bind fun (r6 : Bool) => (if (b2i r6) = 0 then (X4_holds (mu3 (25 + p2)) x2 : Option Bool).bind fun (r7 : Bool) => (if (b2i r7) = 0 then (X4_holds (mu3 (25 + p1)) x2 : Option Bool).bind fun (r8 : Bool) => (if (b2i r8) = 0 then X5_write_L9 p1 p2 n9 (x2 + 1) mu3 else (X6_tell mu3 1 2 x2 (-1) : Option Mem).bind fun (mu9 : Mem) => X5_write_L9 p1 p2 n9 (x2 + 1) mu9) else (X6_tell mu3 1 1 x2 (-1) : Option Mem).bind fun (mu10 : Mem) => X5_write_L9 p1 p2 n9 (x2 + 1) mu10) else (X4_holds (mu3 (25 + p2)) x2 : Option Bool).bind fun (r11 : Bool) => (if (b2i r11) = 0 then (X4_holds (mu3 (25 + p2)) x2 : Option Bool).bind fun (r12 : Bool) => (if (b2i r12) = 0 then (X4_holds (mu3 (25 + p1)) x2 : Option Bool).bind fun (r13 : Bool) => (if (b2i r13) = 0 then X5_write_L9 p1 p2 n9 (x2 + 1) mu3 else (X6_tell mu3 1 2 x2 (-1) : Option Mem).bind fun (mu14 : Mem) => X5_write_L9 p1 p2 n9 (x2 + 1) mu14) else (X6_tell mu3 1 1 x2 (-1) : Option Mem).bind fun (mu15 : Mem) => X5_write_L9 p1 p2 n9 (x2 + 1) mu15) else (X5_writeChange mu3 p1 p2 x2 0 3 : Option Mem).bind fun (mu16 : Mem) => (X5_writeChange mu16 p1 p2 x2 2 4 : Option Mem).bind fun (mu17 : Mem) => (X5_writeChange mu17 p1 p2 x2 3 5 : Option Mem).bind fun (mu18 : Mem) => X5_write_L9 p1 p2 n9 (x2 + 1) mu18)))
def X5_write (u : Mem) (p1 : Nat) (p2 : Nat) : Option (Mem) :=
  (X6_wipe u 1 : Option Mem).bind fun (mu1 : Mem) => (X5_write_L9 p1 p2 fu 0 mu1 : Option Mem).bind fun (mu4 : Mem) => some mu4
set_option maxHeartbeats 4000000 in
set_option maxRecDepth 100000 in
theorem c_X5_write {l : Launch} {D : va_G} {A : Nat → Nat} {cI cZ cD : ClassId} {u u1 : Mem} {p1 : Nat} {p2 : Nat} (hp1 : p1 < 25) (hp2 : p2 < 25) (hE : X5_write u p1 p2 = some (u1)) : Ct l yX5_write cX5_write 4 none (rmOf 2 48) D (tyL cI cZ cD) [.ref (A 72), .ref (A p1), .ref (A p2)] (wX A cI cZ cD u) none (wX A cI cZ cD u1) := by
  refine Ct.ofW (by decide +kernel) (fun p e s m below meth c hC hI => ?_)
  obtain ⟨hx, hb, hml, hown, hr, hlk, hG⟩ := hC
  have hown : s.vm.findClass RX5 = some m.cls := hown
  have hl := lv_entry ([.ref (A 72), .ref (A p1), .ref (A p2)] : List Value) (n := 4) (Nat.le_of_ble_eq_true rfl)
  rw [lg_entry_eq]
  generalize (lg_sl ([.ref (A 72), .ref (A p1), .ref (A p2)] : List Value) ++ List.replicate (4 - (lg_sl ([.ref (A 72), .ref (A p1), .ref (A p2)] : List Value)).length) Slot.unset).toArray = ls at hl ⊢
  have hl : lv_has ls 4 [(0, .ref (A 72)), (1, .ref (A p1)), (2, .ref (A p2))] := hl
  unfold X5_write at hE
  refine lv_aload_n hx hb dX5_write_0 rfl (lv_at hl 0 rfl) ?_
  refine xg_get (C := RX5) (T := TX5) (M := 1) hx hb hown hG hI (by omega) eX_72 rfl inX5 0 (by decide) kf_X5_14 rfl dX5_write_1 ?_
  obtain ⟨mu1, hc, hE⟩ := bd1_some hE
  refine xc_V0 (rest := []) (c_X6_wipe (by omega) hc) mw_X6_wipe km_X5_20 hx hb hml hown hG hI xA_of (wG_atE (by omega) (eX_T (t := 1) (by omega))) rfl rfl ⟨Nat.le_of_ble_eq_true rfl, Nat.le_of_ble_eq_true rfl⟩ rfl hl.1 rfl (Nat.le_of_ble_eq_true rfl) dX5_write_4 (fun H locs hI => ?_)
  refine lv_iconst (v := 0) hx hb dX5_write_7 (by decide) ?_
  refine lv_istore_n (lv' := [(3, .int 0), (0, .ref (A 72)), (1, .ref (A p1)), (2, .ref (A p2))]) hx hb dX5_write_8 rfl hl (by decide) rfl (fun ls hl => ?_)
  obtain ⟨mu4, hZ, hE⟩ := bd1_some hE
  have hX9_4 : ∀ (H : Heap) (locs : List Loc) (ls : Array Slot), xI D (va_A (wX A cI cZ cD u) s.heap.size) s.heap (wX A cI cZ cD mu4) H locs → lv_has ls 4 [] → W p l e (rmOf 2 48) s m ([.ref (A 72), .ref (A p1), .ref (A p2)] : List Value).toArray below meth c H locs 0 0 (xQ D (tyL cI cZ cD) below ([.ref (A 72), .ref (A p1), .ref (A p2)] : List Value).toArray s (wX A cI cZ cD u) none (wX A cI cZ cD u1)) (F0 m 106 ls []) := by
    intro H locs ls hI hl
    clear hZ
    obtain rfl := sm1 hE
    exact xr_v hx hb hr hlk hG hI dX5_write_106
  replace hE := hZ
  clear hZ
  have hL9 : ∀ (n9 : Nat) (x2 : Int32) (mu3 : Mem) (H : Heap) (locs : List Loc) (ls : Array Slot), X5_write_L9 p1 p2 n9 x2 mu3 = some mu4 → xI D (va_A (wX A cI cZ cD u) s.heap.size) s.heap (wX A cI cZ cD mu3) H locs → lv_has ls 4 [(0, .ref (A 72)), (1, .ref (A p1)), (2, .ref (A p2)), (3, .int x2)] → W p l e (rmOf 2 48) s m ([.ref (A 72), .ref (A p1), .ref (A p2)] : List Value).toArray below meth c H locs 0 0 (xQ D (tyL cI cZ cD) below ([.ref (A 72), .ref (A p1), .ref (A p2)] : List Value).toArray s (wX A cI cZ cD u) none (wX A cI cZ cD u1)) (F0 m 9 ls []) := by
    intro n9
    induction n9 with
    | zero =>
      intro x2 mu3 H locs ls hE
      exact absurd hE (by simp [X5_write_L9])
    | succ n9 ih9 =>
      intro x2 mu3 H locs ls hE hI hl
      rw [X5_write_L9] at hE
      refine lv_iload_n hx hb dX5_write_9 rfl (lv_at hl 3 rfl) ?_
      refine lv_bipush (v := 16) hx hb dX5_write_10 (by decide) ?_
      refine lv_icmp_ge (tgt := 106) hx hb dX5_write_12 (by decide) (fun c12 => ?_) (fun c12 => ?_)
      · rw [if_pos c12] at hE
        obtain rfl := sm1 hE
        exact hX9_4 _ _ _ hI (lv_sub hl [] rfl)
      · rw [if_neg c12] at hE
        refine lv_aload_n hx hb dX5_write_15 rfl (lv_at hl 1 rfl) ?_
        refine lv_iload_n hx hb dX5_write_16 rfl (lv_at hl 3 rfl) ?_
        obtain ⟨r6, hc, hE⟩ := bd1_some hE
        refine xc_V1 (rest := []) (Ct.toXr (j := p1) (by omega) (c_X4_holds (OKX (j := p1) (by omega)) hc)) mw_X4_holds km_X5_23 hx hb hml hown hG hI xA_of (wG_atE (by omega) (eX_O (j := p1) (by omega))) rfl rfl ⟨Nat.le_of_ble_eq_true rfl, Nat.le_of_ble_eq_true rfl⟩ rfl hl.1 rfl (Nat.le_of_ble_eq_true rfl) dX5_write_17 (fun H locs hI => ?_)
        refine lv_if_eq (tgt := 61) hx hb dX5_write_20 (by decide) (fun c20 => ?_) (fun c20 => ?_)
        · rw [if_pos c20] at hE
          refine lv_aload_n hx hb dX5_write_61 rfl (lv_at hl 2 rfl) ?_
          refine lv_iload_n hx hb dX5_write_62 rfl (lv_at hl 3 rfl) ?_
          obtain ⟨r7, hc, hE⟩ := bd1_some hE
          refine xc_V1 (rest := []) (Ct.toXr (j := p2) (by omega) (c_X4_holds (OKX (j := p2) (by omega)) hc)) mw_X4_holds km_X5_23 hx hb hml hown hG hI xA_of (wG_atE (by omega) (eX_O (j := p2) (by omega))) rfl rfl ⟨Nat.le_of_ble_eq_true rfl, Nat.le_of_ble_eq_true rfl⟩ rfl hl.1 rfl (Nat.le_of_ble_eq_true rfl) dX5_write_63 (fun H locs hI => ?_)
          refine lv_if_eq (tgt := 82) hx hb dX5_write_66 (by decide) (fun c66 => ?_) (fun c66 => ?_)
          · rw [if_pos c66] at hE
            refine lv_aload_n hx hb dX5_write_82 rfl (lv_at hl 1 rfl) ?_
            refine lv_iload_n hx hb dX5_write_83 rfl (lv_at hl 3 rfl) ?_
            obtain ⟨r8, hc, hE⟩ := bd1_some hE
            refine xc_V1 (rest := []) (Ct.toXr (j := p1) (by omega) (c_X4_holds (OKX (j := p1) (by omega)) hc)) mw_X4_holds km_X5_23 hx hb hml hown hG hI xA_of (wG_atE (by omega) (eX_O (j := p1) (by omega))) rfl rfl ⟨Nat.le_of_ble_eq_true rfl, Nat.le_of_ble_eq_true rfl⟩ rfl hl.1 rfl (Nat.le_of_ble_eq_true rfl) dX5_write_84 (fun H locs hI => ?_)
            refine lv_if_eq (tgt := 100) hx hb dX5_write_87 (by decide) (fun c87 => ?_) (fun c87 => ?_)
            · rw [if_pos c87] at hE
              refine lv_iinc (v := x2 + 1) (lv' := [(3, .int (x2 + 1)), (0, .ref (A 72)), (1, .ref (A p1)), (2, .ref (A p2))]) hx hb dX5_write_100 hl (k := 3) rfl rfl (by decide) rfl (fun ls hl => ?_)
              refine lv_goto (tgt := 9) hx hb dX5_write_103 (by decide) ?_
              exact ih9 _ _ _ _ _ hE hI (lv_sub hl [1, 2, 3, 0] rfl)
            · rw [if_neg c87] at hE
              refine lv_aload_n hx hb dX5_write_90 rfl (lv_at hl 0 rfl) ?_
              refine xg_get (C := RX5) (T := TX5) (M := 1) hx hb hown hG hI (by omega) eX_72 rfl inX5 0 (by decide) kf_X5_14 rfl dX5_write_91 ?_
              refine lv_iconst (v := 2) hx hb dX5_write_94 (by decide) ?_
              refine lv_iload_n hx hb dX5_write_95 rfl (lv_at hl 3 rfl) ?_
              refine lv_iconst (v := (-1)) hx hb dX5_write_96 (by decide) ?_
              obtain ⟨mu9, hc, hE⟩ := bd1_some hE
              refine xc_V0 (rest := []) (c_X6_tell (by omega) hc) mw_X6_tell km_X5_33 hx hb hml hown hG hI xA_of (wG_atE (by omega) (eX_T (t := 1) (by omega))) rfl rfl ⟨Nat.le_of_ble_eq_true rfl, Nat.le_of_ble_eq_true rfl⟩ rfl hl.1 rfl (Nat.le_of_ble_eq_true rfl) dX5_write_97 (fun H locs hI => ?_)
              refine lv_iinc (v := x2 + 1) (lv' := [(3, .int (x2 + 1)), (0, .ref (A 72)), (1, .ref (A p1)), (2, .ref (A p2))]) hx hb dX5_write_100 hl (k := 3) rfl rfl (by decide) rfl (fun ls hl => ?_)
              refine lv_goto (tgt := 9) hx hb dX5_write_103 (by decide) ?_
              exact ih9 _ _ _ _ _ hE hI (lv_sub hl [1, 2, 3, 0] rfl)
          · rw [if_neg c66] at hE
            refine lv_aload_n hx hb dX5_write_69 rfl (lv_at hl 0 rfl) ?_
            refine xg_get (C := RX5) (T := TX5) (M := 1) hx hb hown hG hI (by omega) eX_72 rfl inX5 0 (by decide) kf_X5_14 rfl dX5_write_70 ?_
            refine lv_iconst (v := 1) hx hb dX5_write_73 (by decide) ?_
            refine lv_iload_n hx hb dX5_write_74 rfl (lv_at hl 3 rfl) ?_
            refine lv_iconst (v := (-1)) hx hb dX5_write_75 (by decide) ?_
            obtain ⟨mu10, hc, hE⟩ := bd1_some hE
            refine xc_V0 (rest := []) (c_X6_tell (by omega) hc) mw_X6_tell km_X5_33 hx hb hml hown hG hI xA_of (wG_atE (by omega) (eX_T (t := 1) (by omega))) rfl rfl ⟨Nat.le_of_ble_eq_true rfl, Nat.le_of_ble_eq_true rfl⟩ rfl hl.1 rfl (Nat.le_of_ble_eq_true rfl) dX5_write_76 (fun H locs hI => ?_)
            refine lv_goto (tgt := 100) hx hb dX5_write_79 (by decide) ?_
            refine lv_iinc (v := x2 + 1) (lv' := [(3, .int (x2 + 1)), (0, .ref (A 72)), (1, .ref (A p1)), (2, .ref (A p2))]) hx hb dX5_write_100 hl (k := 3) rfl rfl (by decide) rfl (fun ls hl => ?_)
            refine lv_goto (tgt := 9) hx hb dX5_write_103 (by decide) ?_
            exact ih9 _ _ _ _ _ hE hI (lv_sub hl [1, 2, 3, 0] rfl)
        · rw [if_neg c20] at hE
          refine lv_aload_n hx hb dX5_write_23 rfl (lv_at hl 2 rfl) ?_
          refine lv_iload_n hx hb dX5_write_24 rfl (lv_at hl 3 rfl) ?_
          obtain ⟨r11, hc, hE⟩ := bd1_some hE
          refine xc_V1 (rest := []) (Ct.toXr (j := p2) (by omega) (c_X4_holds (OKX (j := p2) (by omega)) hc)) mw_X4_holds km_X5_23 hx hb hml hown hG hI xA_of (wG_atE (by omega) (eX_O (j := p2) (by omega))) rfl rfl ⟨Nat.le_of_ble_eq_true rfl, Nat.le_of_ble_eq_true rfl⟩ rfl hl.1 rfl (Nat.le_of_ble_eq_true rfl) dX5_write_25 (fun H locs hI => ?_)
          refine lv_if_eq (tgt := 61) hx hb dX5_write_28 (by decide) (fun c28 => ?_) (fun c28 => ?_)
          · rw [if_pos c28] at hE
            refine lv_aload_n hx hb dX5_write_61 rfl (lv_at hl 2 rfl) ?_
            refine lv_iload_n hx hb dX5_write_62 rfl (lv_at hl 3 rfl) ?_
            obtain ⟨r12, hc, hE⟩ := bd1_some hE
            refine xc_V1 (rest := []) (Ct.toXr (j := p2) (by omega) (c_X4_holds (OKX (j := p2) (by omega)) hc)) mw_X4_holds km_X5_23 hx hb hml hown hG hI xA_of (wG_atE (by omega) (eX_O (j := p2) (by omega))) rfl rfl ⟨Nat.le_of_ble_eq_true rfl, Nat.le_of_ble_eq_true rfl⟩ rfl hl.1 rfl (Nat.le_of_ble_eq_true rfl) dX5_write_63 (fun H locs hI => ?_)
            refine lv_if_eq (tgt := 82) hx hb dX5_write_66 (by decide) (fun c66 => ?_) (fun c66 => ?_)
            · rw [if_pos c66] at hE
              refine lv_aload_n hx hb dX5_write_82 rfl (lv_at hl 1 rfl) ?_
              refine lv_iload_n hx hb dX5_write_83 rfl (lv_at hl 3 rfl) ?_
              obtain ⟨r13, hc, hE⟩ := bd1_some hE
              refine xc_V1 (rest := []) (Ct.toXr (j := p1) (by omega) (c_X4_holds (OKX (j := p1) (by omega)) hc)) mw_X4_holds km_X5_23 hx hb hml hown hG hI xA_of (wG_atE (by omega) (eX_O (j := p1) (by omega))) rfl rfl ⟨Nat.le_of_ble_eq_true rfl, Nat.le_of_ble_eq_true rfl⟩ rfl hl.1 rfl (Nat.le_of_ble_eq_true rfl) dX5_write_84 (fun H locs hI => ?_)
              refine lv_if_eq (tgt := 100) hx hb dX5_write_87 (by decide) (fun c87 => ?_) (fun c87 => ?_)
              · rw [if_pos c87] at hE
                refine lv_iinc (v := x2 + 1) (lv' := [(3, .int (x2 + 1)), (0, .ref (A 72)), (1, .ref (A p1)), (2, .ref (A p2))]) hx hb dX5_write_100 hl (k := 3) rfl rfl (by decide) rfl (fun ls hl => ?_)
                refine lv_goto (tgt := 9) hx hb dX5_write_103 (by decide) ?_
                exact ih9 _ _ _ _ _ hE hI (lv_sub hl [1, 2, 3, 0] rfl)
              · rw [if_neg c87] at hE
                refine lv_aload_n hx hb dX5_write_90 rfl (lv_at hl 0 rfl) ?_
                refine xg_get (C := RX5) (T := TX5) (M := 1) hx hb hown hG hI (by omega) eX_72 rfl inX5 0 (by decide) kf_X5_14 rfl dX5_write_91 ?_
                refine lv_iconst (v := 2) hx hb dX5_write_94 (by decide) ?_
                refine lv_iload_n hx hb dX5_write_95 rfl (lv_at hl 3 rfl) ?_
                refine lv_iconst (v := (-1)) hx hb dX5_write_96 (by decide) ?_
                obtain ⟨mu14, hc, hE⟩ := bd1_some hE
                refine xc_V0 (rest := []) (c_X6_tell (by omega) hc) mw_X6_tell km_X5_33 hx hb hml hown hG hI xA_of (wG_atE (by omega) (eX_T (t := 1) (by omega))) rfl rfl ⟨Nat.le_of_ble_eq_true rfl, Nat.le_of_ble_eq_true rfl⟩ rfl hl.1 rfl (Nat.le_of_ble_eq_true rfl) dX5_write_97 (fun H locs hI => ?_)
                refine lv_iinc (v := x2 + 1) (lv' := [(3, .int (x2 + 1)), (0, .ref (A 72)), (1, .ref (A p1)), (2, .ref (A p2))]) hx hb dX5_write_100 hl (k := 3) rfl rfl (by decide) rfl (fun ls hl => ?_)
                refine lv_goto (tgt := 9) hx hb dX5_write_103 (by decide) ?_
                exact ih9 _ _ _ _ _ hE hI (lv_sub hl [1, 2, 3, 0] rfl)
            · rw [if_neg c66] at hE
              refine lv_aload_n hx hb dX5_write_69 rfl (lv_at hl 0 rfl) ?_
              refine xg_get (C := RX5) (T := TX5) (M := 1) hx hb hown hG hI (by omega) eX_72 rfl inX5 0 (by decide) kf_X5_14 rfl dX5_write_70 ?_
              refine lv_iconst (v := 1) hx hb dX5_write_73 (by decide) ?_
              refine lv_iload_n hx hb dX5_write_74 rfl (lv_at hl 3 rfl) ?_
              refine lv_iconst (v := (-1)) hx hb dX5_write_75 (by decide) ?_
              obtain ⟨mu15, hc, hE⟩ := bd1_some hE
              refine xc_V0 (rest := []) (c_X6_tell (by omega) hc) mw_X6_tell km_X5_33 hx hb hml hown hG hI xA_of (wG_atE (by omega) (eX_T (t := 1) (by omega))) rfl rfl ⟨Nat.le_of_ble_eq_true rfl, Nat.le_of_ble_eq_true rfl⟩ rfl hl.1 rfl (Nat.le_of_ble_eq_true rfl) dX5_write_76 (fun H locs hI => ?_)
              refine lv_goto (tgt := 100) hx hb dX5_write_79 (by decide) ?_
              refine lv_iinc (v := x2 + 1) (lv' := [(3, .int (x2 + 1)), (0, .ref (A 72)), (1, .ref (A p1)), (2, .ref (A p2))]) hx hb dX5_write_100 hl (k := 3) rfl rfl (by decide) rfl (fun ls hl => ?_)
              refine lv_goto (tgt := 9) hx hb dX5_write_103 (by decide) ?_
              exact ih9 _ _ _ _ _ hE hI (lv_sub hl [1, 2, 3, 0] rfl)
          · rw [if_neg c28] at hE
            refine lv_aload_n hx hb dX5_write_31 rfl (lv_at hl 0 rfl) ?_
            refine lv_aload_n hx hb dX5_write_32 rfl (lv_at hl 1 rfl) ?_
            refine lv_aload_n hx hb dX5_write_33 rfl (lv_at hl 2 rfl) ?_
            refine lv_iload_n hx hb dX5_write_34 rfl (lv_at hl 3 rfl) ?_
            refine lv_iconst (v := 0) hx hb dX5_write_35 (by decide) ?_
            refine lv_iconst (v := 3) hx hb dX5_write_36 (by decide) ?_
            obtain ⟨mu16, hc, hE⟩ := bd1_some hE
            refine xc_V0 (rest := []) (c_X5_writeChange (by omega) (by omega) hc) mw_X5_writeChange km_X5_29 hx hb hml hown hG hI xA_of (wG_atE (by omega) eX_72) rfl rfl ⟨Nat.le_of_ble_eq_true rfl, Nat.le_of_ble_eq_true rfl⟩ rfl hl.1 rfl (Nat.le_of_ble_eq_true rfl) dX5_write_37 (fun H locs hI => ?_)
            refine lv_aload_n hx hb dX5_write_40 rfl (lv_at hl 0 rfl) ?_
            refine lv_aload_n hx hb dX5_write_41 rfl (lv_at hl 1 rfl) ?_
            refine lv_aload_n hx hb dX5_write_42 rfl (lv_at hl 2 rfl) ?_
            refine lv_iload_n hx hb dX5_write_43 rfl (lv_at hl 3 rfl) ?_
            refine lv_iconst (v := 2) hx hb dX5_write_44 (by decide) ?_
            refine lv_iconst (v := 4) hx hb dX5_write_45 (by decide) ?_
            obtain ⟨mu17, hc, hE⟩ := bd1_some hE
            refine xc_V0 (rest := []) (c_X5_writeChange (by omega) (by omega) hc) mw_X5_writeChange km_X5_29 hx hb hml hown hG hI xA_of (wG_atE (by omega) eX_72) rfl rfl ⟨Nat.le_of_ble_eq_true rfl, Nat.le_of_ble_eq_true rfl⟩ rfl hl.1 rfl (Nat.le_of_ble_eq_true rfl) dX5_write_46 (fun H locs hI => ?_)
            refine lv_aload_n hx hb dX5_write_49 rfl (lv_at hl 0 rfl) ?_
            refine lv_aload_n hx hb dX5_write_50 rfl (lv_at hl 1 rfl) ?_
            refine lv_aload_n hx hb dX5_write_51 rfl (lv_at hl 2 rfl) ?_
            refine lv_iload_n hx hb dX5_write_52 rfl (lv_at hl 3 rfl) ?_
            refine lv_iconst (v := 3) hx hb dX5_write_53 (by decide) ?_
            refine lv_iconst (v := 5) hx hb dX5_write_54 (by decide) ?_
            obtain ⟨mu18, hc, hE⟩ := bd1_some hE
            refine xc_V0 (rest := []) (c_X5_writeChange (by omega) (by omega) hc) mw_X5_writeChange km_X5_29 hx hb hml hown hG hI xA_of (wG_atE (by omega) eX_72) rfl rfl ⟨Nat.le_of_ble_eq_true rfl, Nat.le_of_ble_eq_true rfl⟩ rfl hl.1 rfl (Nat.le_of_ble_eq_true rfl) dX5_write_55 (fun H locs hI => ?_)
            refine lv_goto (tgt := 100) hx hb dX5_write_58 (by decide) ?_
            refine lv_iinc (v := x2 + 1) (lv' := [(3, .int (x2 + 1)), (0, .ref (A 72)), (1, .ref (A p1)), (2, .ref (A p2))]) hx hb dX5_write_100 hl (k := 3) rfl rfl (by decide) rfl (fun ls hl => ?_)
            refine lv_goto (tgt := 9) hx hb dX5_write_103 (by decide) ?_
            exact ih9 _ _ _ _ _ hE hI (lv_sub hl [1, 2, 3, 0] rfl)
  exact hL9 _ _ _ _ _ _ hE hI (lv_sub hl [1, 2, 3, 0] rfl)
