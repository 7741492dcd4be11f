def X2_score (u : Mem) (p0 : Nat) (p1 : Int32) (p2 : Nat) (p3 : Int32) : Option (Int32) :=
  (X4_holds (u (25 + p2)) p3 : Option Bool).bind fun (r1 : Bool) => (if (b2i r1) = 0 then some 0 else (X4_trait (u (25 + p0)) p1 2 : Option Int32).bind fun (r2 : Int32) => (X4_trait (u (25 + p2)) p3 2 : Option Int32).bind fun (r3 : Int32) => ((if r2 = r3 then some 4 else some 0) : Option Int32).bind fun (x4 : Int32) => (X4_trait (u (25 + p0)) p1 3 : Option Int32).bind fun (r6 : Int32) => (X4_trait (u (25 + p2)) p3 3 : Option Int32).bind fun (r7 : Int32) => ((if r6 = r7 then some 2 else some 0) : Option Int32).bind fun (x8 : Int32) => (X4_trait (u (25 + p0)) p1 0 : Option Int32).bind fun (r10 : Int32) => (X4_trait (u (25 + p2)) p3 0 : Option Int32).bind fun (r11 : Int32) => (X4_trait (u (25 + p0)) r10 2 : Option Int32).bind fun (r12 : Int32) => (X4_trait (u (25 + p2)) r11 2 : Option Int32).bind fun (r13 : Int32) => ((if r12 = r13 then some 2 else some 0) : Option Int32).bind fun (x14 : Int32) => (X4_trait (u (25 + p0)) p1 1 : Option Int32).bind fun (r16 : Int32) => (X4_trait (u (25 + p2)) p3 1 : Option Int32).bind fun (r17 : Int32) => ((if r16 = r17 then some 1 else some 0) : Option Int32).bind fun (x18 : Int32) => some (((x4 + x8) + x14) + x18))
set_option maxHeartbeats 4000000 in
set_option maxRecDepth 100000 in
theorem c_X2_score {l : Launch} {D : va_G} {A : Nat → Nat} {cI cZ cD : ClassId} {u : Mem} {p0 : Nat} {p1 : Int32} {p2 : Nat} {p3 : Int32} {r : Int32} (hp0 : p0 < 25) (hp2 : p2 < 25) (hE : X2_score u p0 p1 p2 p3 = some (r)) : Ct l yX2_score cX2_score 7 (some .int) (rmOf 1 22) D (tyL cI cZ cD) [.ref (A p0), .int p1, .ref (A p2), .int p3] (wX A cI cZ cD u) (some (.int r)) (wX A cI cZ cD u) := by
  refine Ct.ofW (by decide +kernel) (fun p e s m below meth c hC hI => ?_)
  obtain ⟨hx, hb, hml, hown, hr, hlk, hG⟩ := hC
  have hown : s.vm.findClass RX2 = some m.cls := hown
  have hl := lv_entry ([.ref (A p0), .int p1, .ref (A p2), .int p3] : List Value) (n := 7) (Nat.le_of_ble_eq_true rfl)
  rw [lg_entry_eq]
  generalize (lg_sl ([.ref (A p0), .int p1, .ref (A p2), .int p3] : List Value) ++ List.replicate (7 - (lg_sl ([.ref (A p0), .int p1, .ref (A p2), .int p3] : List Value)).length) Slot.unset).toArray = ls at hl ⊢
  have hl : lv_has ls 7 [(0, .ref (A p0)), (1, .int p1), (2, .ref (A p2)), (3, .int p3)] := hl
  unfold X2_score at hE
  refine lv_aload_n hx hb dX2_score_0 rfl (lv_at hl 2 rfl) ?_
  refine lv_iload_n hx hb dX2_score_1 rfl (lv_at hl 3 rfl) ?_
  obtain ⟨r1, hc, hE⟩ := bd1_some hE
  refine xc_V1 (rest := []) (Ct.toXr (j := p2) (by omega) (c_X4_holds (OKX (j := p2) (by omega)) hc)) mw_X4_holds km_X2_22 hx hb hml hown hG hI xA_of (wG_atE (by omega) (eX_O (j := p2) (by omega))) rfl rfl ⟨Nat.le_of_ble_eq_true rfl, Nat.le_of_ble_eq_true rfl⟩ rfl hl.1 rfl (Nat.le_of_ble_eq_true rfl) dX2_score_2 (fun H locs hI => ?_)
  refine lv_if_ne (tgt := 10) hx hb dX2_score_5 (by decide) (fun c5 => ?_) (fun c5 => ?_)
  · rw [if_neg c5] at hE
    refine lv_aload_n hx hb dX2_score_10 rfl (lv_at hl 0 rfl) ?_
    refine lv_iload_n hx hb dX2_score_11 rfl (lv_at hl 1 rfl) ?_
    refine lv_iconst (v := 2) hx hb dX2_score_12 (by decide) ?_
    obtain ⟨r2, hc, hE⟩ := bd1_some hE
    refine xc_V1 (rest := []) (Ct.toXr (j := p0) (by omega) (c_X4_trait (OKX (j := p0) (by omega)) hc)) mw_X4_trait km_X2_36 hx hb hml hown hG hI xA_of (wG_atE (by omega) (eX_O (j := p0) (by omega))) rfl rfl ⟨Nat.le_of_ble_eq_true rfl, Nat.le_of_ble_eq_true rfl⟩ rfl hl.1 rfl (Nat.le_of_ble_eq_true rfl) dX2_score_13 (fun H locs hI => ?_)
    refine lv_aload_n hx hb dX2_score_16 rfl (lv_at hl 2 rfl) ?_
    refine lv_iload_n hx hb dX2_score_17 rfl (lv_at hl 3 rfl) ?_
    refine lv_iconst (v := 2) hx hb dX2_score_18 (by decide) ?_
    obtain ⟨r3, hc, hE⟩ := bd1_some hE
    refine xc_V1 (rest := [.int r2]) (Ct.toXr (j := p2) (by omega) (c_X4_trait (OKX (j := p2) (by omega)) hc)) mw_X4_trait km_X2_36 hx hb hml hown hG hI xA_of (wG_atE (by omega) (eX_O (j := p2) (by omega))) rfl rfl ⟨Nat.le_of_ble_eq_true rfl, Nat.le_of_ble_eq_true rfl⟩ rfl hl.1 rfl (Nat.le_of_ble_eq_true rfl) dX2_score_19 (fun H locs hI => ?_)
    obtain ⟨x4, hZ, hE⟩ := bd1_some hE
    have hJ30_4 : ∀ (H : Heap) (locs : List Loc) (ls : Array Slot), xI D (va_A (wX A cI cZ cD u) s.heap.size) s.heap (wX A cI cZ cD u) H locs → lv_has ls 7 [(0, .ref (A p0)), (1, .int p1), (2, .ref (A p2)), (3, .int p3)] → W p l e (rmOf 1 22) s m ([.ref (A p0), .int p1, .ref (A p2), .int p3] : List Value).toArray below meth c H locs 0 0 (xQ D (tyL cI cZ cD) below ([.ref (A p0), .int p1, .ref (A p2), .int p3] : List Value).toArray s (wX A cI cZ cD u) (some (.int r)) (wX A cI cZ cD u)) (F0 m 30 ls [.int x4]) := by
      intro H locs ls hI hl
      clear hZ
      refine lv_istore (lv' := [(4, .int x4), (0, .ref (A p0)), (1, .int p1), (2, .ref (A p2)), (3, .int p3)]) hx hb dX2_score_30 hl (by decide) rfl (fun ls hl => ?_)
      refine lv_iload hx hb dX2_score_32 (lv_at hl 0 rfl) ?_
      refine lv_aload_n hx hb dX2_score_34 rfl (lv_at hl 1 rfl) ?_
      refine lv_iload_n hx hb dX2_score_35 rfl (lv_at hl 2 rfl) ?_
      refine lv_iconst (v := 3) hx hb dX2_score_36 (by decide) ?_
      obtain ⟨r6, hc, hE⟩ := bd1_some hE
      refine xc_V1 (rest := [.int x4]) (Ct.toXr (j := p0) (by omega) (c_X4_trait (OKX (j := p0) (by omega)) hc)) mw_X4_trait km_X2_36 hx hb hml hown hG hI xA_of (wG_atE (by omega) (eX_O (j := p0) (by omega))) rfl rfl ⟨Nat.le_of_ble_eq_true rfl, Nat.le_of_ble_eq_true rfl⟩ rfl hl.1 rfl (Nat.le_of_ble_eq_true rfl) dX2_score_37 (fun H locs hI => ?_)
      refine lv_aload_n hx hb dX2_score_40 rfl (lv_at hl 3 rfl) ?_
      refine lv_iload_n hx hb dX2_score_41 rfl (lv_at hl 4 rfl) ?_
      refine lv_iconst (v := 3) hx hb dX2_score_42 (by decide) ?_
      obtain ⟨r7, hc, hE⟩ := bd1_some hE
      refine xc_V1 (rest := [.int r6, .int x4]) (Ct.toXr (j := p2) (by omega) (c_X4_trait (OKX (j := p2) (by omega)) hc)) mw_X4_trait km_X2_36 hx hb hml hown hG hI xA_of (wG_atE (by omega) (eX_O (j := p2) (by omega))) rfl rfl ⟨Nat.le_of_ble_eq_true rfl, Nat.le_of_ble_eq_true rfl⟩ rfl hl.1 rfl (Nat.le_of_ble_eq_true rfl) dX2_score_43 (fun H locs hI => ?_)
      obtain ⟨x8, hZ, hE⟩ := bd1_some hE
      have hJ54_8 : ∀ (H : Heap) (locs : List Loc) (ls : Array Slot), xI D (va_A (wX A cI cZ cD u) s.heap.size) s.heap (wX A cI cZ cD u) H locs → lv_has ls 7 [(0, .ref (A p0)), (1, .int p1), (2, .ref (A p2)), (3, .int p3)] → W p l e (rmOf 1 22) s m ([.ref (A p0), .int p1, .ref (A p2), .int p3] : List Value).toArray below meth c H locs 0 0 (xQ D (tyL cI cZ cD) below ([.ref (A p0), .int p1, .ref (A p2), .int p3] : List Value).toArray s (wX A cI cZ cD u) (some (.int r)) (wX A cI cZ cD u)) (F0 m 54 ls [.int x8, .int x4]) := by
        intro H locs ls hI hl
        clear hZ
        refine lv_iadd hx hb dX2_score_54 ?_
        refine lv_istore (lv' := [(4, .int (x4 + x8)), (0, .ref (A p0)), (1, .int p1), (2, .ref (A p2)), (3, .int p3)]) hx hb dX2_score_55 hl (by decide) rfl (fun ls hl => ?_)
        refine lv_aload_n hx hb dX2_score_57 rfl (lv_at hl 1 rfl) ?_
        refine lv_iload_n hx hb dX2_score_58 rfl (lv_at hl 2 rfl) ?_
        refine lv_iconst (v := 0) hx hb dX2_score_59 (by decide) ?_
        obtain ⟨r10, hc, hE⟩ := bd1_some hE
        refine xc_V1 (rest := []) (Ct.toXr (j := p0) (by omega) (c_X4_trait (OKX (j := p0) (by omega)) hc)) mw_X4_trait km_X2_36 hx hb hml hown hG hI xA_of (wG_atE (by omega) (eX_O (j := p0) (by omega))) rfl rfl ⟨Nat.le_of_ble_eq_true rfl, Nat.le_of_ble_eq_true rfl⟩ rfl hl.1 rfl (Nat.le_of_ble_eq_true rfl) dX2_score_60 (fun H locs hI => ?_)
        refine lv_istore (lv' := [(5, .int r10), (4, .int (x4 + x8)), (0, .ref (A p0)), (1, .int p1), (2, .ref (A p2)), (3, .int p3)]) hx hb dX2_score_63 hl (by decide) rfl (fun ls hl => ?_)
        refine lv_aload_n hx hb dX2_score_65 rfl (lv_at hl 4 rfl) ?_
        refine lv_iload_n hx hb dX2_score_66 rfl (lv_at hl 5 rfl) ?_
        refine lv_iconst (v := 0) hx hb dX2_score_67 (by decide) ?_
        obtain ⟨r11, hc, hE⟩ := bd1_some hE
        refine xc_V1 (rest := []) (Ct.toXr (j := p2) (by omega) (c_X4_trait (OKX (j := p2) (by omega)) hc)) mw_X4_trait km_X2_36 hx hb hml hown hG hI xA_of (wG_atE (by omega) (eX_O (j := p2) (by omega))) rfl rfl ⟨Nat.le_of_ble_eq_true rfl, Nat.le_of_ble_eq_true rfl⟩ rfl hl.1 rfl (Nat.le_of_ble_eq_true rfl) dX2_score_68 (fun H locs hI => ?_)
        refine lv_istore (lv' := [(6, .int r11), (5, .int r10), (4, .int (x4 + x8)), (0, .ref (A p0)), (1, .int p1), (2, .ref (A p2)), (3, .int p3)]) hx hb dX2_score_71 hl (by decide) rfl (fun ls hl => ?_)
        refine lv_iload hx hb dX2_score_73 (lv_at hl 2 rfl) ?_
        refine lv_aload_n hx hb dX2_score_75 rfl (lv_at hl 3 rfl) ?_
        refine lv_iload hx hb dX2_score_76 (lv_at hl 1 rfl) ?_
        refine lv_iconst (v := 2) hx hb dX2_score_78 (by decide) ?_
        obtain ⟨r12, hc, hE⟩ := bd1_some hE
        refine xc_V1 (rest := [.int (x4 + x8)]) (Ct.toXr (j := p0) (by omega) (c_X4_trait (OKX (j := p0) (by omega)) hc)) mw_X4_trait km_X2_36 hx hb hml hown hG hI xA_of (wG_atE (by omega) (eX_O (j := p0) (by omega))) rfl rfl ⟨Nat.le_of_ble_eq_true rfl, Nat.le_of_ble_eq_true rfl⟩ rfl hl.1 rfl (Nat.le_of_ble_eq_true rfl) dX2_score_79 (fun H locs hI => ?_)
        refine lv_aload_n hx hb dX2_score_82 rfl (lv_at hl 5 rfl) ?_
        refine lv_iload hx hb dX2_score_83 (lv_at hl 0 rfl) ?_
        refine lv_iconst (v := 2) hx hb dX2_score_85 (by decide) ?_
        obtain ⟨r13, hc, hE⟩ := bd1_some hE
        refine xc_V1 (rest := [.int r12, .int (x4 + x8)]) (Ct.toXr (j := p2) (by omega) (c_X4_trait (OKX (j := p2) (by omega)) hc)) mw_X4_trait km_X2_36 hx hb hml hown hG hI xA_of (wG_atE (by omega) (eX_O (j := p2) (by omega))) rfl rfl ⟨Nat.le_of_ble_eq_true rfl, Nat.le_of_ble_eq_true rfl⟩ rfl hl.1 rfl (Nat.le_of_ble_eq_true rfl) dX2_score_86 (fun H locs hI => ?_)
        obtain ⟨x14, hZ, hE⟩ := bd1_some hE
        have hJ97_14 : ∀ (H : Heap) (locs : List Loc) (ls : Array Slot), xI D (va_A (wX A cI cZ cD u) s.heap.size) s.heap (wX A cI cZ cD u) H locs → lv_has ls 7 [(0, .ref (A p0)), (1, .int p1), (2, .ref (A p2)), (3, .int p3)] → W p l e (rmOf 1 22) s m ([.ref (A p0), .int p1, .ref (A p2), .int p3] : List Value).toArray below meth c H locs 0 0 (xQ D (tyL cI cZ cD) below ([.ref (A p0), .int p1, .ref (A p2), .int p3] : List Value).toArray s (wX A cI cZ cD u) (some (.int r)) (wX A cI cZ cD u)) (F0 m 97 ls [.int x14, .int (x4 + x8)]) := by
          intro H locs ls hI hl
          clear hZ
          refine lv_iadd hx hb dX2_score_97 ?_
          refine lv_istore (lv' := [(4, .int ((x4 + x8) + x14)), (0, .ref (A p0)), (1, .int p1), (2, .ref (A p2)), (3, .int p3)]) hx hb dX2_score_98 hl (by decide) rfl (fun ls hl => ?_)
          refine lv_iload hx hb dX2_score_100 (lv_at hl 0 rfl) ?_
          refine lv_aload_n hx hb dX2_score_102 rfl (lv_at hl 1 rfl) ?_
          refine lv_iload_n hx hb dX2_score_103 rfl (lv_at hl 2 rfl) ?_
          refine lv_iconst (v := 1) hx hb dX2_score_104 (by decide) ?_
          obtain ⟨r16, hc, hE⟩ := bd1_some hE
          refine xc_V1 (rest := [.int ((x4 + x8) + x14)]) (Ct.toXr (j := p0) (by omega) (c_X4_trait (OKX (j := p0) (by omega)) hc)) mw_X4_trait km_X2_36 hx hb hml hown hG hI xA_of (wG_atE (by omega) (eX_O (j := p0) (by omega))) rfl rfl ⟨Nat.le_of_ble_eq_true rfl, Nat.le_of_ble_eq_true rfl⟩ rfl hl.1 rfl (Nat.le_of_ble_eq_true rfl) dX2_score_105 (fun H locs hI => ?_)
          refine lv_aload_n hx hb dX2_score_108 rfl (lv_at hl 3 rfl) ?_
          refine lv_iload_n hx hb dX2_score_109 rfl (lv_at hl 4 rfl) ?_
          refine lv_iconst (v := 1) hx hb dX2_score_110 (by decide) ?_
          obtain ⟨r17, hc, hE⟩ := bd1_some hE
          refine xc_V1 (rest := [.int r16, .int ((x4 + x8) + x14)]) (Ct.toXr (j := p2) (by omega) (c_X4_trait (OKX (j := p2) (by omega)) hc)) mw_X4_trait km_X2_36 hx hb hml hown hG hI xA_of (wG_atE (by omega) (eX_O (j := p2) (by omega))) rfl rfl ⟨Nat.le_of_ble_eq_true rfl, Nat.le_of_ble_eq_true rfl⟩ rfl hl.1 rfl (Nat.le_of_ble_eq_true rfl) dX2_score_111 (fun H locs hI => ?_)
          obtain ⟨x18, hZ, hE⟩ := bd1_some hE
          have hJ122_18 : ∀ (H : Heap) (locs : List Loc) (ls : Array Slot), xI D (va_A (wX A cI cZ cD u) s.heap.size) s.heap (wX A cI cZ cD u) H locs → lv_has ls 7 [] → W p l e (rmOf 1 22) s m ([.ref (A p0), .int p1, .ref (A p2), .int p3] : List Value).toArray below meth c H locs 0 0 (xQ D (tyL cI cZ cD) below ([.ref (A p0), .int p1, .ref (A p2), .int p3] : List Value).toArray s (wX A cI cZ cD u) (some (.int r)) (wX A cI cZ cD u)) (F0 m 122 ls [.int x18, .int ((x4 + x8) + x14)]) := by
            intro H locs ls hI hl
            clear hZ
            refine lv_iadd hx hb dX2_score_122 ?_
            obtain rfl := sm1 hE
            exact xr_i hx hb hr hlk hG hI dX2_score_123
          replace hE := hZ
          clear hZ
          refine lv_icmp_ne (tgt := 121) hx hb dX2_score_114 (by decide) (fun c114 => ?_) (fun c114 => ?_)
          · rw [if_neg c114] at hE
            refine lv_iconst (v := 0) hx hb dX2_score_121 (by decide) ?_
            obtain rfl := sm1 hE
            exact hJ122_18 _ _ _ hI (lv_sub hl [] rfl)
          · rw [if_pos c114] at hE
            refine lv_iconst (v := 1) hx hb dX2_score_117 (by decide) ?_
            refine lv_goto (tgt := 122) hx hb dX2_score_118 (by decide) ?_
            obtain rfl := sm1 hE
            exact hJ122_18 _ _ _ hI (lv_sub hl [] rfl)
        replace hE := hZ
        clear hZ
        refine lv_icmp_ne (tgt := 96) hx hb dX2_score_89 (by decide) (fun c89 => ?_) (fun c89 => ?_)
        · rw [if_neg c89] at hE
          refine lv_iconst (v := 0) hx hb dX2_score_96 (by decide) ?_
          obtain rfl := sm1 hE
          exact hJ97_14 _ _ _ hI (lv_sub hl [3, 4, 5, 6] rfl)
        · rw [if_pos c89] at hE
          refine lv_iconst (v := 2) hx hb dX2_score_92 (by decide) ?_
          refine lv_goto (tgt := 97) hx hb dX2_score_93 (by decide) ?_
          obtain rfl := sm1 hE
          exact hJ97_14 _ _ _ hI (lv_sub hl [3, 4, 5, 6] rfl)
      replace hE := hZ
      clear hZ
      refine lv_icmp_ne (tgt := 53) hx hb dX2_score_46 (by decide) (fun c46 => ?_) (fun c46 => ?_)
      · rw [if_neg c46] at hE
        refine lv_iconst (v := 0) hx hb dX2_score_53 (by decide) ?_
        obtain rfl := sm1 hE
        exact hJ54_8 _ _ _ hI (lv_sub hl [1, 2, 3, 4] rfl)
      · rw [if_pos c46] at hE
        refine lv_iconst (v := 2) hx hb dX2_score_49 (by decide) ?_
        refine lv_goto (tgt := 54) hx hb dX2_score_50 (by decide) ?_
        obtain rfl := sm1 hE
        exact hJ54_8 _ _ _ hI (lv_sub hl [1, 2, 3, 4] rfl)
    replace hE := hZ
    clear hZ
    refine lv_icmp_ne (tgt := 29) hx hb dX2_score_22 (by decide) (fun c22 => ?_) (fun c22 => ?_)
    · rw [if_neg c22] at hE
      refine lv_iconst (v := 0) hx hb dX2_score_29 (by decide) ?_
      obtain rfl := sm1 hE
      exact hJ30_4 _ _ _ hI (lv_sub hl [0, 1, 2, 3] rfl)
    · rw [if_pos c22] at hE
      refine lv_iconst (v := 4) hx hb dX2_score_25 (by decide) ?_
      refine lv_goto (tgt := 30) hx hb dX2_score_26 (by decide) ?_
      obtain rfl := sm1 hE
      exact hJ30_4 _ _ _ hI (lv_sub hl [0, 1, 2, 3] rfl)
  · rw [if_pos c5] at hE
    refine lv_iconst (v := 0) hx hb dX2_score_8 (by decide) ?_
    obtain rfl := sm1 hE
    exact xr_i hx hb hr hlk hG hI dX2_score_9
def X2_pairAll_L10 (p1 : Int32) (x1 : Int32) : Nat → Int32 → Mem → Option (Mem)
  | 0, _, _ => none
  | n10 + 1, x5, mu6 =>
    (if 16 ≤ x5 then some mu6 else (rd 16 (mu6 76) x1).bind fun v9 => (if v9 = 0 then (rd 256 (mu6 74) ((x1 * 16) + x5)).bind fun v10 => (if v10 = p1 then (rd 16 (mu6 75) x5).bind fun v11 => (if v11 = (-1) then (stI 16 mu6 76 x1 (bnar 1)).bind fun mu12 => (stI 16 mu12 75 x5 x1).bind fun mu13 => X2_pairAll_L10 p1 x1 n10 (x5 + 1) mu13 else X2_pairAll_L10 p1 x1 n10 (x5 + 1) mu6) else X2_pairAll_L10 p1 x1 n10 (x5 + 1) mu6) else some mu6))
def X2_pairAll_L2 (p1 : Int32) : Nat → Int32 → Mem → Option (Mem)
  | 0, _, _ => none
  | n2 + 1, x1, mu2 =>
    (if 16 ≤ x1 then some mu2 else (X2_pairAll_L10 p1 x1 fu 1 mu2 : Option Mem).bind fun (mu7 : Mem) => X2_pairAll_L2 p1 n2 (x1 + 1) mu7)
def X2_pairAll (u : Mem) (p1 : Int32) : Option (Mem) :=
  (X2_pairAll_L2 p1 fu 1 u : Option Mem).bind fun (mu3 : Mem) => some mu3
set_option maxHeartbeats 4000000 in
set_option maxRecDepth 100000 in
theorem c_X2_pairAll {l : Launch} {D : va_G} {A : Nat → Nat} {cI cZ cD : ClassId} {u u1 : Mem} {p1 : Int32}  (hE : X2_pairAll u p1 = some (u1)) : Ct l yX2_pairAll cX2_pairAll 4 none (rmOf 0 0) D (tyL cI cZ cD) [.ref (A 73), .int p1] (wX A cI cZ cD u) none (wX A cI cZ cD u1) := by
  refine Ct.ofW (by decide +kernel) (fun p e s m below meth c hC hI => ?_)
  obtain ⟨hx, hb, hml, hown, hr, hlk, hG⟩ := hC
  have hown : s.vm.findClass RX2 = some m.cls := hown
  have hl := lv_entry ([.ref (A 73), .int p1] : List Value) (n := 4) (Nat.le_of_ble_eq_true rfl)
  rw [lg_entry_eq]
  generalize (lg_sl ([.ref (A 73), .int p1] : List Value) ++ List.replicate (4 - (lg_sl ([.ref (A 73), .int p1] : List Value)).length) Slot.unset).toArray = ls at hl ⊢
  have hl : lv_has ls 4 [(0, .ref (A 73)), (1, .int p1)] := hl
  unfold X2_pairAll at hE
  refine lv_iconst (v := 1) hx hb dX2_pairAll_0 (by decide) ?_
  refine lv_istore_n (lv' := [(2, .int 1), (0, .ref (A 73)), (1, .int p1)]) hx hb dX2_pairAll_1 rfl hl (by decide) rfl (fun ls hl => ?_)
  obtain ⟨mu3, hZ, hE⟩ := bd1_some hE
  have hX2_3 : ∀ (H : Heap) (locs : List Loc) (ls : Array Slot), xI D (va_A (wX A cI cZ cD u) s.heap.size) s.heap (wX A cI cZ cD mu3) H locs → lv_has ls 4 [] → W p l e (rmOf 0 0) s m ([.ref (A 73), .int p1] : List Value).toArray below meth c H locs 0 0 (xQ D (tyL cI cZ cD) below ([.ref (A 73), .int p1] : List Value).toArray s (wX A cI cZ cD u) none (wX A cI cZ cD u1)) (F0 m 76 ls []) := by
    intro H locs ls hI hl
    clear hZ
    obtain rfl := sm1 hE
    exact xr_v hx hb hr hlk hG hI dX2_pairAll_76
  replace hE := hZ
  clear hZ
  have hL2 : ∀ (n2 : Nat) (x1 : Int32) (mu2 : Mem) (H : Heap) (locs : List Loc) (ls : Array Slot), X2_pairAll_L2 p1 n2 x1 mu2 = some mu3 → xI D (va_A (wX A cI cZ cD u) s.heap.size) s.heap (wX A cI cZ cD mu2) H locs → lv_has ls 4 [(0, .ref (A 73)), (1, .int p1), (2, .int x1)] → W p l e (rmOf 0 0) s m ([.ref (A 73), .int p1] : List Value).toArray below meth c H locs 0 0 (xQ D (tyL cI cZ cD) below ([.ref (A 73), .int p1] : List Value).toArray s (wX A cI cZ cD u) none (wX A cI cZ cD u1)) (F0 m 2 ls []) := by
    intro n2
    induction n2 with
    | zero =>
      intro x1 mu2 H locs ls hE
      exact absurd hE (by simp [X2_pairAll_L2])
    | succ n2 ih2 =>
      intro x1 mu2 H locs ls hE hI hl
      rw [X2_pairAll_L2] at hE
      refine lv_iload_n hx hb dX2_pairAll_2 rfl (lv_at hl 2 rfl) ?_
      refine lv_bipush (v := 16) hx hb dX2_pairAll_3 (by decide) ?_
      refine lv_icmp_ge (tgt := 76) hx hb dX2_pairAll_5 (by decide) (fun c5 => ?_) (fun c5 => ?_)
      · rw [if_pos c5] at hE
        obtain rfl := sm1 hE
        exact hX2_3 _ _ _ hI (lv_sub hl [] rfl)
      · rw [if_neg c5] at hE
        refine lv_iconst (v := 1) hx hb dX2_pairAll_8 (by decide) ?_
        refine lv_istore_n (lv' := [(3, .int 1), (0, .ref (A 73)), (1, .int p1), (2, .int x1)]) hx hb dX2_pairAll_9 rfl hl (by decide) rfl (fun ls hl => ?_)
        obtain ⟨mu7, hZ, hE⟩ := bd1_some hE
        have hX10_7 : ∀ (H : Heap) (locs : List Loc) (ls : Array Slot), xI D (va_A (wX A cI cZ cD u) s.heap.size) s.heap (wX A cI cZ cD mu7) H locs → lv_has ls 4 [(0, .ref (A 73)), (1, .int p1), (2, .int x1)] → W p l e (rmOf 0 0) s m ([.ref (A 73), .int p1] : List Value).toArray below meth c H locs 0 0 (xQ D (tyL cI cZ cD) below ([.ref (A 73), .int p1] : List Value).toArray s (wX A cI cZ cD u) none (wX A cI cZ cD u1)) (F0 m 70 ls []) := by
          intro H locs ls hI hl
          clear hZ
          refine lv_iinc (v := x1 + 1) (lv' := [(2, .int (x1 + 1)), (0, .ref (A 73)), (1, .int p1)]) hx hb dX2_pairAll_70 hl (k := 2) rfl rfl (by decide) rfl (fun ls hl => ?_)
          refine lv_goto (tgt := 2) hx hb dX2_pairAll_73 (by decide) ?_
          exact ih2 _ _ _ _ _ hE hI (lv_sub hl [1, 2, 0] rfl)
        replace hE := hZ
        clear hZ
        have hL10 : ∀ (n10 : Nat) (x5 : Int32) (mu6 : Mem) (H : Heap) (locs : List Loc) (ls : Array Slot), X2_pairAll_L10 p1 x1 n10 x5 mu6 = some mu7 → xI D (va_A (wX A cI cZ cD u) s.heap.size) s.heap (wX A cI cZ cD mu6) H locs → lv_has ls 4 [(0, .ref (A 73)), (1, .int p1), (2, .int x1), (3, .int x5)] → W p l e (rmOf 0 0) s m ([.ref (A 73), .int p1] : List Value).toArray below meth c H locs 0 0 (xQ D (tyL cI cZ cD) below ([.ref (A 73), .int p1] : List Value).toArray s (wX A cI cZ cD u) none (wX A cI cZ cD u1)) (F0 m 10 ls []) := by
          intro n10
          induction n10 with
          | zero =>
            intro x5 mu6 H locs ls hE
            exact absurd hE (by simp [X2_pairAll_L10])
          | succ n10 ih10 =>
            intro x5 mu6 H locs ls hE hI hl
            rw [X2_pairAll_L10] at hE
            refine lv_iload_n hx hb dX2_pairAll_10 rfl (lv_at hl 3 rfl) ?_
            refine lv_bipush (v := 16) hx hb dX2_pairAll_11 (by decide) ?_
            refine lv_icmp_ge (tgt := 70) hx hb dX2_pairAll_13 (by decide) (fun c13 => ?_) (fun c13 => ?_)
            · rw [if_pos c13] at hE
              obtain rfl := sm1 hE
              exact hX10_7 _ _ _ hI (lv_sub hl [0, 1, 2] rfl)
            · rw [if_neg c13] at hE
              refine lv_aload_n hx hb dX2_pairAll_16 rfl (lv_at hl 0 rfl) ?_
              refine xg_get (C := RX2) (T := TX2) (M := 3) hx hb hown hG hI (by omega) eX_73 rfl inX2 2 (by decide) kf_X2_18 rfl dX2_pairAll_17 ?_
              refine lv_iload_n hx hb dX2_pairAll_20 rfl (lv_at hl 2 rfl) ?_
              obtain ⟨v9, hv, hE⟩ := bd1_some hE
              refine xg_zald 1 hx hb hG hI (by omega) eX_76 rfl hv dX2_pairAll_21 ?_
              refine lv_if_ne (tgt := 70) hx hb dX2_pairAll_22 (by decide) (fun c22 => ?_) (fun c22 => ?_)
              · rw [if_neg c22] at hE
                obtain rfl := sm1 hE
                exact hX10_7 _ _ _ hI (lv_sub hl [0, 1, 2] rfl)
              · rw [if_pos c22] at hE
                refine lv_aload_n hx hb dX2_pairAll_25 rfl (lv_at hl 0 rfl) ?_
                refine xg_get (C := RX2) (T := TX2) (M := 3) hx hb hown hG hI (by omega) eX_73 rfl inX2 0 (by decide) kf_X2_9 rfl dX2_pairAll_26 ?_
                refine lv_iload_n hx hb dX2_pairAll_29 rfl (lv_at hl 2 rfl) ?_
                refine lv_bipush (v := 16) hx hb dX2_pairAll_30 (by decide) ?_
                refine lv_imul hx hb dX2_pairAll_32 ?_
                refine lv_iload_n hx hb dX2_pairAll_33 rfl (lv_at hl 3 rfl) ?_
                refine lv_iadd hx hb dX2_pairAll_34 ?_
                obtain ⟨v10, hv, hE⟩ := bd1_some hE
                refine xg_iald 0 hx hb hG hI (by omega) eX_74 rfl hv dX2_pairAll_35 ?_
                refine lv_iload_n hx hb dX2_pairAll_36 rfl (lv_at hl 1 rfl) ?_
                refine lv_icmp_ne (tgt := 64) hx hb dX2_pairAll_37 (by decide) (fun c37 => ?_) (fun c37 => ?_)
                · rw [if_neg c37] at hE
                  refine lv_iinc (v := x5 + 1) (lv' := [(3, .int (x5 + 1)), (0, .ref (A 73)), (1, .int p1), (2, .int x1)]) hx hb dX2_pairAll_64 hl (k := 3) rfl rfl (by decide) rfl (fun ls hl => ?_)
                  refine lv_goto (tgt := 10) hx hb dX2_pairAll_67 (by decide) ?_
                  exact ih10 _ _ _ _ _ hE hI (lv_sub hl [1, 2, 3, 0] rfl)
                · rw [if_pos c37] at hE
                  refine lv_aload_n hx hb dX2_pairAll_40 rfl (lv_at hl 0 rfl) ?_
                  refine xg_get (C := RX2) (T := TX2) (M := 3) hx hb hown hG hI (by omega) eX_73 rfl inX2 1 (by decide) kf_X2_15 rfl dX2_pairAll_41 ?_
                  refine lv_iload_n hx hb dX2_pairAll_44 rfl (lv_at hl 3 rfl) ?_
                  obtain ⟨v11, hv, hE⟩ := bd1_some hE
                  refine xg_iald 0 hx hb hG hI (by omega) eX_75 rfl hv dX2_pairAll_45 ?_
                  refine lv_iconst (v := (-1)) hx hb dX2_pairAll_46 (by decide) ?_
                  refine lv_icmp_ne (tgt := 64) hx hb dX2_pairAll_47 (by decide) (fun c47 => ?_) (fun c47 => ?_)
                  · rw [if_neg c47] at hE
                    refine lv_iinc (v := x5 + 1) (lv' := [(3, .int (x5 + 1)), (0, .ref (A 73)), (1, .int p1), (2, .int x1)]) hx hb dX2_pairAll_64 hl (k := 3) rfl rfl (by decide) rfl (fun ls hl => ?_)
                    refine lv_goto (tgt := 10) hx hb dX2_pairAll_67 (by decide) ?_
                    exact ih10 _ _ _ _ _ hE hI (lv_sub hl [1, 2, 3, 0] rfl)
                  · rw [if_pos c47] at hE
                    refine lv_aload_n hx hb dX2_pairAll_50 rfl (lv_at hl 0 rfl) ?_
                    refine xg_get (C := RX2) (T := TX2) (M := 3) hx hb hown hG hI (by omega) eX_73 rfl inX2 2 (by decide) kf_X2_18 rfl dX2_pairAll_51 ?_
                    refine lv_iload_n hx hb dX2_pairAll_54 rfl (lv_at hl 2 rfl) ?_
                    refine lv_iconst (v := 1) hx hb dX2_pairAll_55 (by decide) ?_
                    obtain ⟨mu12, hv, hE⟩ := bd1_some hE
                    refine xg_zast 1 hx hb hG hI (by omega) eX_76 rfl hv dX2_pairAll_56 (fun H locs hI => ?_)
                    refine lv_aload_n hx hb dX2_pairAll_57 rfl (lv_at hl 0 rfl) ?_
                    refine xg_get (C := RX2) (T := TX2) (M := 3) hx hb hown hG hI (by omega) eX_73 rfl inX2 1 (by decide) kf_X2_15 rfl dX2_pairAll_58 ?_
                    refine lv_iload_n hx hb dX2_pairAll_61 rfl (lv_at hl 3 rfl) ?_
                    refine lv_iload_n hx hb dX2_pairAll_62 rfl (lv_at hl 2 rfl) ?_
                    obtain ⟨mu13, hv, hE⟩ := bd1_some hE
                    refine xg_iast 0 hx hb hG hI (by omega) eX_75 rfl hv dX2_pairAll_63 (fun H locs hI => ?_)
                    refine lv_iinc (v := x5 + 1) (lv' := [(3, .int (x5 + 1)), (0, .ref (A 73)), (1, .int p1), (2, .int x1)]) hx hb dX2_pairAll_64 hl (k := 3) rfl rfl (by decide) rfl (fun ls hl => ?_)
                    refine lv_goto (tgt := 10) hx hb dX2_pairAll_67 (by decide) ?_
                    exact ih10 _ _ _ _ _ hE hI (lv_sub hl [1, 2, 3, 0] rfl)
        exact hL10 _ _ _ _ _ _ hE hI (lv_sub hl [1, 2, 3, 0] rfl)
  exact hL2 _ _ _ _ _ _ hE hI (lv_sub hl [1, 2, 0] rfl)
def X2_match_L102 : Nat → Int32 → Mem → Option (Mem)
  | 0, _, _ => none
  | n102 + 1, x9, mu10 =>
    (if x9 < 3 then some mu10 else (X2_pairAll mu10 x9 : Option Mem).bind fun (mu13 : Mem) => X2_match_L102 n102 (x9 + (-1)) mu13)
def X2_match_L51 (p1 : Nat) (p2 : Nat) (x5 : Int32) : Nat → Int32 → Mem → Option (Mem)
  | 0, _, _ => none
  | n51 + 1, x14, mu15 =>
    (if 16 ≤ x14 then some mu15 else (rd 16 (mu15 76) x5).bind fun v18 => (if v18 = 0 then (X2_score mu15 p1 x5 p2 x14 : Option Int32).bind fun (r19 : Int32) => (stI 256 mu15 74 ((x5 * 16) + x14) r19).bind fun mu20 => X2_match_L51 p1 p2 x5 n51 (x14 + 1) mu20 else some mu15))
def X2_match_L42 (p1 : Nat) (p2 : Nat) : Nat → Int32 → Mem → Option (Mem)
  | 0, _, _ => none
  | n42 + 1, x5, mu6 =>
    (if 16 ≤ x5 then some mu6 else (X2_match_L51 p1 p2 x5 fu 1 mu6 : Option Mem).bind fun (mu16 : Mem) => X2_match_L42 p1 p2 n42 (x5 + 1) mu16)
def X2_match_L2 (p1 : Nat) : Nat → Int32 → Mem → Option (Mem)
  | 0, _, _ => none
  | n2 + 1, x1, mu2 =>
    (if 16 ≤ x1 then some mu2 else (stI 16 mu2 75 x1 (-1)).bind fun mu21 => (X4_holds (mu21 (25 + p1)) x1 : Option Bool).bind fun (r22 : Bool) => ((if (b2i r22) = 0 then some 1 else some 0) : Option Int32).bind fun (x23 : Int32) => (stI 16 mu21 76 x1 (bnar x23)).bind fun mu25 => X2_match_L2 p1 n2 (x1 + 1) mu25)
def X2_match (u : Mem) (p1 : Nat) (p2 : Nat) : Option (Mem) :=
  (X2_match_L2 p1 fu 0 u : Option Mem).bind fun (mu3 : Mem) => (X2_match_L42 p1 p2 fu 1 mu3 : Option Mem).bind fun (mu7 : Mem) => (X2_match_L102 fu 9 mu7 : Option Mem).bind fun (mu11 : Mem) => some mu11
set_option maxHeartbeats 4000000 in
set_option maxRecDepth 100000 in
theorem c_X2_match {l : Launch} {D : va_G} {A : Nat → Nat} {cI cZ cD : ClassId} {u u1 : Mem} {p1 : Nat} {p2 : Nat} (hp1 : p1 < 25) (hp2 : p2 < 25) (hE : X2_match u p1 p2 = some (u1)) : Ct l yX2_match cX2_match 5 none (rmOf 2 48) D (tyL cI cZ cD) [.ref (A 73), .ref (A p1), .ref (A p2)] (wX A cI cZ cD u) none (wX A cI cZ cD u1) := by
  refine Ct.ofW (by decide +kernel) (fun p e s m below meth c hC hI => ?_)
  obtain ⟨hx, hb, hml, hown, hr, hlk, hG⟩ := hC
  have hown : s.vm.findClass RX2 = some m.cls := hown
  have hl := lv_entry ([.ref (A 73), .ref (A p1), .ref (A p2)] : List Value) (n := 5) (Nat.le_of_ble_eq_true rfl)
  rw [lg_entry_eq]
  generalize (lg_sl ([.ref (A 73), .ref (A p1), .ref (A p2)] : List Value) ++ List.replicate (5 - (lg_sl ([.ref (A 73), .ref (A p1), .ref (A p2)] : List Value)).length) Slot.unset).toArray = ls at hl ⊢
  have hl : lv_has ls 5 [(0, .ref (A 73)), (1, .ref (A p1)), (2, .ref (A p2))] := hl
  unfold X2_match at hE
  refine lv_iconst (v := 0) hx hb dX2_match_0 (by decide) ?_
  refine lv_istore_n (lv' := [(3, .int 0), (0, .ref (A 73)), (1, .ref (A p1)), (2, .ref (A p2))]) hx hb dX2_match_1 rfl hl (by decide) rfl (fun ls hl => ?_)
  obtain ⟨mu3, hZ, hE⟩ := bd1_some hE
  have hX2_3 : ∀ (H : Heap) (locs : List Loc) (ls : Array Slot), xI D (va_A (wX A cI cZ cD u) s.heap.size) s.heap (wX A cI cZ cD mu3) H locs → lv_has ls 5 [(0, .ref (A 73)), (1, .ref (A p1)), (2, .ref (A p2))] → W p l e (rmOf 2 48) s m ([.ref (A 73), .ref (A p1), .ref (A p2)] : List Value).toArray below meth c H locs 0 0 (xQ D (tyL cI cZ cD) below ([.ref (A 73), .ref (A p1), .ref (A p2)] : List Value).toArray s (wX A cI cZ cD u) none (wX A cI cZ cD u1)) (F0 m 40 ls []) := by
    intro H locs ls hI hl
    clear hZ
    refine lv_iconst (v := 1) hx hb dX2_match_40 (by decide) ?_
    refine lv_istore_n (lv' := [(3, .int 1), (0, .ref (A 73)), (1, .ref (A p1)), (2, .ref (A p2))]) hx hb dX2_match_41 rfl hl (by decide) rfl (fun ls hl => ?_)
    obtain ⟨mu7, hZ, hE⟩ := bd1_some hE
    have hX42_7 : ∀ (H : Heap) (locs : List Loc) (ls : Array Slot), xI D (va_A (wX A cI cZ cD u) s.heap.size) s.heap (wX A cI cZ cD mu7) H locs → lv_has ls 5 [(0, .ref (A 73))] → W p l e (rmOf 2 48) s m ([.ref (A 73), .ref (A p1), .ref (A p2)] : List Value).toArray below meth c H locs 0 0 (xQ D (tyL cI cZ cD) below ([.ref (A 73), .ref (A p1), .ref (A p2)] : List Value).toArray s (wX A cI cZ cD u) none (wX A cI cZ cD u1)) (F0 m 99 ls []) := by
      intro H locs ls hI hl
      clear hZ
      refine lv_bipush (v := 9) hx hb dX2_match_99 (by decide) ?_
      refine lv_istore_n (lv' := [(3, .int 9), (0, .ref (A 73))]) hx hb dX2_match_101 rfl hl (by decide) rfl (fun ls hl => ?_)
      obtain ⟨mu11, hZ, hE⟩ := bd1_some hE
      have hX102_11 : ∀ (H : Heap) (locs : List Loc) (ls : Array Slot), xI D (va_A (wX A cI cZ cD u) s.heap.size) s.heap (wX A cI cZ cD mu11) H locs → lv_has ls 5 [] → W p l e (rmOf 2 48) s m ([.ref (A 73), .ref (A p1), .ref (A p2)] : List Value).toArray below meth c H locs 0 0 (xQ D (tyL cI cZ cD) below ([.ref (A 73), .ref (A p1), .ref (A p2)] : List Value).toArray s (wX A cI cZ cD u) none (wX A cI cZ cD u1)) (F0 m 118 ls []) := by
        intro H locs ls hI hl
        clear hZ
        obtain rfl := sm1 hE
        exact xr_v hx hb hr hlk hG hI dX2_match_118
      replace hE := hZ
      clear hZ
      have hL102 : ∀ (n102 : Nat) (x9 : Int32) (mu10 : Mem) (H : Heap) (locs : List Loc) (ls : Array Slot), X2_match_L102 n102 x9 mu10 = some mu11 → xI D (va_A (wX A cI cZ cD u) s.heap.size) s.heap (wX A cI cZ cD mu10) H locs → lv_has ls 5 [(0, .ref (A 73)), (3, .int x9)] → W p l e (rmOf 2 48) s m ([.ref (A 73), .ref (A p1), .ref (A p2)] : List Value).toArray below meth c H locs 0 0 (xQ D (tyL cI cZ cD) below ([.ref (A 73), .ref (A p1), .ref (A p2)] : List Value).toArray s (wX A cI cZ cD u) none (wX A cI cZ cD u1)) (F0 m 102 ls []) := by
        intro n102
        induction n102 with
        | zero =>
          intro x9 mu10 H locs ls hE
          exact absurd hE (by simp [X2_match_L102])
        | succ n102 ih102 =>
          intro x9 mu10 H locs ls hE hI hl
          rw [X2_match_L102] at hE
          refine lv_iload_n hx hb dX2_match_102 rfl (lv_at hl 1 rfl) ?_
          refine lv_iconst (v := 3) hx hb dX2_match_103 (by decide) ?_
          refine lv_icmp_lt (tgt := 118) hx hb dX2_match_104 (by decide) (fun c104 => ?_) (fun c104 => ?_)
          · rw [if_pos c104] at hE
            obtain rfl := sm1 hE
            exact hX102_11 _ _ _ hI (lv_sub hl [] rfl)
          · rw [if_neg c104] at hE
            refine lv_aload_n hx hb dX2_match_107 rfl (lv_at hl 0 rfl) ?_
            refine lv_iload_n hx hb dX2_match_108 rfl (lv_at hl 1 rfl) ?_
            obtain ⟨mu13, hc, hE⟩ := bd1_some hE
            refine xc_V0 (rest := []) (c_X2_pairAll hc) mw_X2_pairAll km_X2_32 hx hb hml hown hG hI xA_of (wG_atE (by omega) eX_73) rfl rfl ⟨Nat.le_of_ble_eq_true rfl, Nat.le_of_ble_eq_true rfl⟩ rfl hl.1 rfl (Nat.le_of_ble_eq_true rfl) dX2_match_109 (fun H locs hI => ?_)
            refine lv_iinc (v := x9 + (-1)) (lv' := [(3, .int (x9 + (-1))), (0, .ref (A 73))]) hx hb dX2_match_112 hl (k := 1) rfl (congrArg (x9 + ·) (by decide)) (by decide) rfl (fun ls hl => ?_)
            refine lv_goto (tgt := 102) hx hb dX2_match_115 (by decide) ?_
            exact ih102 _ _ _ _ _ hE hI (lv_sub hl [1, 0] rfl)
      exact hL102 _ _ _ _ _ _ hE hI (lv_sub hl [1, 0] rfl)
    replace hE := hZ
    clear hZ
    have hL42 : ∀ (n42 : Nat) (x5 : Int32) (mu6 : Mem) (H : Heap) (locs : List Loc) (ls : Array Slot), X2_match_L42 p1 p2 n42 x5 mu6 = some mu7 → xI D (va_A (wX A cI cZ cD u) s.heap.size) s.heap (wX A cI cZ cD mu6) H locs → lv_has ls 5 [(0, .ref (A 73)), (1, .ref (A p1)), (2, .ref (A p2)), (3, .int x5)] → W p l e (rmOf 2 48) s m ([.ref (A 73), .ref (A p1), .ref (A p2)] : List Value).toArray below meth c H locs 0 0 (xQ D (tyL cI cZ cD) below ([.ref (A 73), .ref (A p1), .ref (A p2)] : List Value).toArray s (wX A cI cZ cD u) none (wX A cI cZ cD u1)) (F0 m 42 ls []) := by
      intro n42
      induction n42 with
      | zero =>
        intro x5 mu6 H locs ls hE
        exact absurd hE (by simp [X2_match_L42])
      | succ n42 ih42 =>
        intro x5 mu6 H locs ls hE hI hl
        rw [X2_match_L42] at hE
        refine lv_iload_n hx hb dX2_match_42 rfl (lv_at hl 3 rfl) ?_
        refine lv_bipush (v := 16) hx hb dX2_match_43 (by decide) ?_
        refine lv_icmp_ge (tgt := 99) hx hb dX2_match_45 (by decide) (fun c45 => ?_) (fun c45 => ?_)
        · rw [if_pos c45] at hE
          obtain rfl := sm1 hE
          exact hX42_7 _ _ _ hI (lv_sub hl [0] rfl)
        · rw [if_neg c45] at hE
          refine lv_iconst (v := 1) hx hb dX2_match_48 (by decide) ?_
          refine lv_istore (lv' := [(4, .int 1), (0, .ref (A 73)), (1, .ref (A p1)), (2, .ref (A p2)), (3, .int x5)]) hx hb dX2_match_49 hl (by decide) rfl (fun ls hl => ?_)
          obtain ⟨mu16, hZ, hE⟩ := bd1_some hE
          have hX51_16 : ∀ (H : Heap) (locs : List Loc) (ls : Array Slot), xI D (va_A (wX A cI cZ cD u) s.heap.size) s.heap (wX A cI cZ cD mu16) H locs → lv_has ls 5 [(0, .ref (A 73)), (1, .ref (A p1)), (2, .ref (A p2)), (3, .int x5)] → W p l e (rmOf 2 48) s m ([.ref (A 73), .ref (A p1), .ref (A p2)] : List Value).toArray below meth c H locs 0 0 (xQ D (tyL cI cZ cD) below ([.ref (A 73), .ref (A p1), .ref (A p2)] : List Value).toArray s (wX A cI cZ cD u) none (wX A cI cZ cD u1)) (F0 m 93 ls []) := by
            intro H locs ls hI hl
            clear hZ
            refine lv_iinc (v := x5 + 1) (lv' := [(3, .int (x5 + 1)), (0, .ref (A 73)), (1, .ref (A p1)), (2, .ref (A p2))]) hx hb dX2_match_93 hl (k := 3) rfl rfl (by decide) rfl (fun ls hl => ?_)
            refine lv_goto (tgt := 42) hx hb dX2_match_96 (by decide) ?_
            exact ih42 _ _ _ _ _ hE hI (lv_sub hl [1, 2, 3, 0] rfl)
          replace hE := hZ
          clear hZ
          have hL51 : ∀ (n51 : Nat) (x14 : Int32) (mu15 : Mem) (H : Heap) (locs : List Loc) (ls : Array Slot), X2_match_L51 p1 p2 x5 n51 x14 mu15 = some mu16 → xI D (va_A (wX A cI cZ cD u) s.heap.size) s.heap (wX A cI cZ cD mu15) H locs → lv_has ls 5 [(0, .ref (A 73)), (1, .ref (A p1)), (2, .ref (A p2)), (3, .int x5), (4, .int x14)] → W p l e (rmOf 2 48) s m ([.ref (A 73), .ref (A p1), .ref (A p2)] : List Value).toArray below meth c H locs 0 0 (xQ D (tyL cI cZ cD) below ([.ref (A 73), .ref (A p1), .ref (A p2)] : List Value).toArray s (wX A cI cZ cD u) none (wX A cI cZ cD u1)) (F0 m 51 ls []) := by
            intro n51
            induction n51 with
            | zero =>
              intro x14 mu15 H locs ls hE
              exact absurd hE (by simp [X2_match_L51])
            | succ n51 ih51 =>
              intro x14 mu15 H locs ls hE hI hl
              rw [X2_match_L51] at hE
              refine lv_iload hx hb dX2_match_51 (lv_at hl 4 rfl) ?_
              refine lv_bipush (v := 16) hx hb dX2_match_53 (by decide) ?_
              refine lv_icmp_ge (tgt := 93) hx hb dX2_match_55 (by decide) (fun c55 => ?_) (fun c55 => ?_)
              · rw [if_pos c55] at hE
                obtain rfl := sm1 hE
                exact hX51_16 _ _ _ hI (lv_sub hl [0, 1, 2, 3] rfl)
              · rw [if_neg c55] at hE
                refine lv_aload_n hx hb dX2_match_58 rfl (lv_at hl 0 rfl) ?_
                refine xg_get (C := RX2) (T := TX2) (M := 3) hx hb hown hG hI (by omega) eX_73 rfl inX2 2 (by decide) kf_X2_18 rfl dX2_match_59 ?_
                refine lv_iload_n hx hb dX2_match_62 rfl (lv_at hl 3 rfl) ?_
                obtain ⟨v18, hv, hE⟩ := bd1_some hE
                refine xg_zald 1 hx hb hG hI (by omega) eX_76 rfl hv dX2_match_63 ?_
                refine lv_if_ne (tgt := 93) hx hb dX2_match_64 (by decide) (fun c64 => ?_) (fun c64 => ?_)
                · rw [if_neg c64] at hE
                  obtain rfl := sm1 hE
                  exact hX51_16 _ _ _ hI (lv_sub hl [0, 1, 2, 3] rfl)
                · rw [if_pos c64] at hE
                  refine lv_aload_n hx hb dX2_match_67 rfl (lv_at hl 0 rfl) ?_
                  refine xg_get (C := RX2) (T := TX2) (M := 3) hx hb hown hG hI (by omega) eX_73 rfl inX2 0 (by decide) kf_X2_9 rfl dX2_match_68 ?_
                  refine lv_iload_n hx hb dX2_match_71 rfl (lv_at hl 3 rfl) ?_
                  refine lv_bipush (v := 16) hx hb dX2_match_72 (by decide) ?_
                  refine lv_imul hx hb dX2_match_74 ?_
                  refine lv_iload hx hb dX2_match_75 (lv_at hl 4 rfl) ?_
                  refine lv_iadd hx hb dX2_match_77 ?_
                  refine lv_aload_n hx hb dX2_match_78 rfl (lv_at hl 1 rfl) ?_
                  refine lv_iload_n hx hb dX2_match_79 rfl (lv_at hl 3 rfl) ?_
                  refine lv_aload_n hx hb dX2_match_80 rfl (lv_at hl 2 rfl) ?_
                  refine lv_iload hx hb dX2_match_81 (lv_at hl 4 rfl) ?_
                  obtain ⟨r19, hc, hE⟩ := bd1_some hE
                  refine xc_S1 (rest := [.int ((x5 * 16) + x14), .ref (A 74)]) (c_X2_score (by omega) (by omega) hc) mw_X2_score km_X2_28 hx hb hml hown hG hI xA_of ⟨Nat.le_of_ble_eq_true rfl, Nat.le_of_ble_eq_true rfl⟩ rfl hl.1 rfl (Nat.le_of_ble_eq_true rfl) dX2_match_83 (fun H locs hI => ?_)
                  obtain ⟨mu20, hv, hE⟩ := bd1_some hE
                  refine xg_iast 0 hx hb hG hI (by omega) eX_74 rfl hv dX2_match_86 (fun H locs hI => ?_)
                  refine lv_iinc (v := x14 + 1) (lv' := [(4, .int (x14 + 1)), (0, .ref (A 73)), (1, .ref (A p1)), (2, .ref (A p2)), (3, .int x5)]) hx hb dX2_match_87 hl (k := 4) rfl rfl (by decide) rfl (fun ls hl => ?_)
                  refine lv_goto (tgt := 51) hx hb dX2_match_90 (by decide) ?_
                  exact ih51 _ _ _ _ _ hE hI (lv_sub hl [1, 2, 3, 4, 0] rfl)
          exact hL51 _ _ _ _ _ _ hE hI (lv_sub hl [1, 2, 3, 4, 0] rfl)
    exact hL42 _ _ _ _ _ _ hE hI (lv_sub hl [1, 2, 3, 0] rfl)
  replace hE := hZ
  clear hZ
  have hL2 : ∀ (n2 : Nat) (x1 : Int32) (mu2 : Mem) (H : Heap) (locs : List Loc) (ls : Array Slot), X2_match_L2 p1 n2 x1 mu2 = some mu3 → xI D (va_A (wX A cI cZ cD u) s.heap.size) s.heap (wX A cI cZ cD mu2) H locs → lv_has ls 5 [(0, .ref (A 73)), (1, .ref (A p1)), (2, .ref (A p2)), (3, .int x1)] → W p l e (rmOf 2 48) s m ([.ref (A 73), .ref (A p1), .ref (A p2)] : List Value).toArray below meth c H locs 0 0 (xQ D (tyL cI cZ cD) below ([.ref (A 73), .ref (A p1), .ref (A p2)] : List Value).toArray s (wX A cI cZ cD u) none (wX A cI cZ cD u1)) (F0 m 2 ls []) := by
    intro n2
    induction n2 with
    | zero =>
      intro x1 mu2 H locs ls hE
      exact absurd hE (by simp [X2_match_L2])
    | succ n2 ih2 =>
      intro x1 mu2 H locs ls hE hI hl
      rw [X2_match_L2] at hE
      refine lv_iload_n hx hb dX2_match_2 rfl (lv_at hl 3 rfl) ?_
      refine lv_bipush (v := 16) hx hb dX2_match_3 (by decide) ?_
      refine lv_icmp_ge (tgt := 40) hx hb dX2_match_5 (by decide) (fun c5 => ?_) (fun c5 => ?_)
      · rw [if_pos c5] at hE
        obtain rfl := sm1 hE
        exact hX2_3 _ _ _ hI (lv_sub hl [0, 1, 2] rfl)
      · rw [if_neg c5] at hE
        refine lv_aload_n hx hb dX2_match_8 rfl (lv_at hl 0 rfl) ?_
        refine xg_get (C := RX2) (T := TX2) (M := 3) hx hb hown hG hI (by omega) eX_73 rfl inX2 1 (by decide) kf_X2_15 rfl dX2_match_9 ?_
        refine lv_iload_n hx hb dX2_match_12 rfl (lv_at hl 3 rfl) ?_
        refine lv_iconst (v := (-1)) hx hb dX2_match_13 (by decide) ?_
        obtain ⟨mu21, hv, hE⟩ := bd1_some hE
        refine xg_iast 0 hx hb hG hI (by omega) eX_75 rfl hv dX2_match_14 (fun H locs hI => ?_)
        refine lv_aload_n hx hb dX2_match_15 rfl (lv_at hl 0 rfl) ?_
        refine xg_get (C := RX2) (T := TX2) (M := 3) hx hb hown hG hI (by omega) eX_73 rfl inX2 2 (by decide) kf_X2_18 rfl dX2_match_16 ?_
        refine lv_iload_n hx hb dX2_match_19 rfl (lv_at hl 3 rfl) ?_
        refine lv_aload_n hx hb dX2_match_20 rfl (lv_at hl 1 rfl) ?_
        refine lv_iload_n hx hb dX2_match_21 rfl (lv_at hl 3 rfl) ?_
        obtain ⟨r22, hc, hE⟩ := bd1_some hE
        refine xc_V1 (rest := [.int x1, .ref (A 76)]) (Ct.toXr (j := p1) (by omega) (c_X4_holds (OKX (j := p1) (by omega)) hc)) mw_X4_holds km_X2_22 hx hb hml hown hG hI xA_of (wG_atE (by omega) (eX_O (j := p1) (by omega))) rfl rfl ⟨Nat.le_of_ble_eq_true rfl, Nat.le_of_ble_eq_true rfl⟩ rfl hl.1 rfl (Nat.le_of_ble_eq_true rfl) dX2_match_22 (fun H locs hI => ?_)
        obtain ⟨x23, hZ, hE⟩ := bd1_some hE
        have hJ33_23 : ∀ (H : Heap) (locs : List Loc) (ls : Array Slot), xI D (va_A (wX A cI cZ cD u) s.heap.size) s.heap (wX A cI cZ cD mu21) H locs → lv_has ls 5 [(0, .ref (A 73)), (1, .ref (A p1)), (2, .ref (A p2)), (3, .int x1)] → W p l e (rmOf 2 48) s m ([.ref (A 73), .ref (A p1), .ref (A p2)] : List Value).toArray below meth c H locs 0 0 (xQ D (tyL cI cZ cD) below ([.ref (A 73), .ref (A p1), .ref (A p2)] : List Value).toArray s (wX A cI cZ cD u) none (wX A cI cZ cD u1)) (F0 m 33 ls [.int x23, .int x1, .ref (A 76)]) := by
          intro H locs ls hI hl
          clear hZ
          obtain ⟨mu25, hv, hE⟩ := bd1_some hE
          refine xg_zast 1 hx hb hG hI (by omega) eX_76 rfl hv dX2_match_33 (fun H locs hI => ?_)
          refine lv_iinc (v := x1 + 1) (lv' := [(3, .int (x1 + 1)), (0, .ref (A 73)), (1, .ref (A p1)), (2, .ref (A p2))]) hx hb dX2_match_34 hl (k := 3) rfl rfl (by decide) rfl (fun ls hl => ?_)
          refine lv_goto (tgt := 2) hx hb dX2_match_37 (by decide) ?_
          exact ih2 _ _ _ _ _ hE hI (lv_sub hl [1, 2, 3, 0] rfl)
        replace hE := hZ
        clear hZ
        refine lv_if_ne (tgt := 32) hx hb dX2_match_25 (by decide) (fun c25 => ?_) (fun c25 => ?_)
        · rw [if_neg c25] at hE
          refine lv_iconst (v := 0) hx hb dX2_match_32 (by decide) ?_
          obtain rfl := sm1 hE
          exact hJ33_23 _ _ _ hI (lv_sub hl [0, 1, 2, 3] rfl)
        · rw [if_pos c25] at hE
          refine lv_iconst (v := 1) hx hb dX2_match_28 (by decide) ?_
          refine lv_goto (tgt := 33) hx hb dX2_match_29 (by decide) ?_
          obtain rfl := sm1 hE
          exact hJ33_23 _ _ _ hI (lv_sub hl [0, 1, 2, 3] rfl)
  exact hL2 _ _ _ _ _ _ hE hI (lv_sub hl [1, 2, 3, 0] rfl)
def X2_partnerOf (u : Mem) (p1 : Int32) : Option (Int32) :=
  (X8_isNumber p1 : Option Bool).bind fun (r1 : Bool) => (if (b2i r1) = 0 then some (-1) else (rd 16 (u 75) p1).bind fun v2 => some v2)
set_option maxHeartbeats 4000000 in
set_option maxRecDepth 100000 in
theorem c_X2_partnerOf {l : Launch} {D : va_G} {A : Nat → Nat} {cI cZ cD : ClassId} {u : Mem} {p1 : Int32} {r : Int32}  (hE : X2_partnerOf u p1 = some (r)) : Ct l yX2_partnerOf cX2_partnerOf 2 (some .int) (rmOf 1 20) D (tyL cI cZ cD) [.ref (A 73), .int p1] (wX A cI cZ cD u) (some (.int r)) (wX A cI cZ cD u) := by
  refine Ct.ofW (by decide +kernel) (fun p e s m below meth c hC hI => ?_)
  obtain ⟨hx, hb, hml, hown, hr, hlk, hG⟩ := hC
  have hown : s.vm.findClass RX2 = some m.cls := hown
  have hl := lv_entry ([.ref (A 73), .int p1] : List Value) (n := 2) (Nat.le_of_ble_eq_true rfl)
  rw [lg_entry_eq]
  generalize (lg_sl ([.ref (A 73), .int p1] : List Value) ++ List.replicate (2 - (lg_sl ([.ref (A 73), .int p1] : List Value)).length) Slot.unset).toArray = ls at hl ⊢
  have hl : lv_has ls 2 [(0, .ref (A 73)), (1, .int p1)] := hl
  unfold X2_partnerOf at hE
  refine lv_iload_n hx hb dX2_partnerOf_0 rfl (lv_at hl 1 rfl) ?_
  obtain ⟨r1, hc, hE⟩ := bd1_some hE
  refine xc_SN1 (rest := []) (c_X8_isNumber hc) mw_X8_isNumber km_X2_40 hx hb hml hown hG hI xA_of ⟨Nat.le_of_ble_eq_true rfl, Nat.le_of_ble_eq_true rfl⟩ rfl hl.1 rfl (Nat.le_of_ble_eq_true rfl) dX2_partnerOf_1 (fun H locs hI => ?_)
  refine lv_if_eq (tgt := 16) hx hb dX2_partnerOf_4 (by decide) (fun c4 => ?_) (fun c4 => ?_)
  · rw [if_pos c4] at hE
    refine lv_iconst (v := (-1)) hx hb dX2_partnerOf_16 (by decide) ?_
    obtain rfl := sm1 hE
    exact xr_i hx hb hr hlk hG hI dX2_partnerOf_17
  · rw [if_neg c4] at hE
    refine lv_aload_n hx hb dX2_partnerOf_7 rfl (lv_at hl 0 rfl) ?_
    refine xg_get (C := RX2) (T := TX2) (M := 3) hx hb hown hG hI (by omega) eX_73 rfl inX2 1 (by decide) kf_X2_15 rfl dX2_partnerOf_8 ?_
    refine lv_iload_n hx hb dX2_partnerOf_11 rfl (lv_at hl 1 rfl) ?_
    obtain ⟨v2, hv, hE⟩ := bd1_some hE
    refine xg_iald 0 hx hb hG hI (by omega) eX_75 rfl hv dX2_partnerOf_12 ?_
    refine lv_goto (tgt := 17) hx hb dX2_partnerOf_13 (by decide) ?_
    obtain rfl := sm1 hE
    exact xr_i hx hb hr hlk hG hI dX2_partnerOf_17
def X2_countStrangers_L4 (u : Mem) : Nat → Int32 → Int32 → Option (Int32)
  | 0, _, _ => none
  | n4 + 1, x1, x2 =>
    (if 16 ≤ x2 then some x1 else (rd 16 (u 75) x2).bind fun v5 => ((if v5 = (-1) then some 0 else (rd 16 (u 75) x2).bind fun v8 => (if v8 = x2 then some 0 else some 1)) : Option Int32).bind fun (x6 : Int32) => X2_countStrangers_L4 u n4 (x1 + x6) (x2 + 1))
def X2_countStrangers (u : Mem) : Option (Int32) :=
  (X2_countStrangers_L4 u fu 0 1 : Option Int32).bind fun (x3 : Int32) => some x3
set_option maxHeartbeats 4000000 in
set_option maxRecDepth 100000 in
theorem c_X2_countStrangers {l : Launch} {D : va_G} {A : Nat → Nat} {cI cZ cD : ClassId} {u : Mem} {r : Int32}  (hE : X2_countStrangers u = some (r)) : Ct l yX2_countStrangers cX2_countStrangers 3 (some .int) (rmOf 0 0) D (tyL cI cZ cD) [.ref (A 73)] (wX A cI cZ cD u) (some (.int r)) (wX A cI cZ cD u) := by
  refine Ct.ofW (by decide +kernel) (fun p e s m below meth c hC hI => ?_)
  obtain ⟨hx, hb, hml, hown, hr, hlk, hG⟩ := hC
  have hown : s.vm.findClass RX2 = some m.cls := hown
  have hl := lv_entry ([.ref (A 73)] : List Value) (n := 3) (Nat.le_of_ble_eq_true rfl)
  rw [lg_entry_eq]
  generalize (lg_sl ([.ref (A 73)] : List Value) ++ List.replicate (3 - (lg_sl ([.ref (A 73)] : List Value)).length) Slot.unset).toArray = ls at hl ⊢
  have hl : lv_has ls 3 [(0, .ref (A 73))] := hl
  unfold X2_countStrangers at hE
  refine lv_iconst (v := 0) hx hb dX2_countStrangers_0 (by decide) ?_
  refine lv_istore_n (lv' := [(1, .int 0), (0, .ref (A 73))]) hx hb dX2_countStrangers_1 rfl hl (by decide) rfl (fun ls hl => ?_)
  refine lv_iconst (v := 1) hx hb dX2_countStrangers_2 (by decide) ?_
  refine lv_istore_n (lv' := [(2, .int 1), (1, .int 0), (0, .ref (A 73))]) hx hb dX2_countStrangers_3 rfl hl (by decide) rfl (fun ls hl => ?_)
  obtain ⟨x3, hZ, hE⟩ := bd1_some hE
  have hX4_3 : ∀ (H : Heap) (locs : List Loc) (ls : Array Slot), xI D (va_A (wX A cI cZ cD u) s.heap.size) s.heap (wX A cI cZ cD u) H locs → lv_has ls 3 [(1, .int x3)] → W p l e (rmOf 0 0) s m ([.ref (A 73)] : List Value).toArray below meth c H locs 0 0 (xQ D (tyL cI cZ cD) below ([.ref (A 73)] : List Value).toArray s (wX A cI cZ cD u) (some (.int r)) (wX A cI cZ cD u)) (F0 m 44 ls []) := by
    intro H locs ls hI hl
    clear hZ
    refine lv_iload_n hx hb dX2_countStrangers_44 rfl (lv_at hl 0 rfl) ?_
    obtain rfl := sm1 hE
    exact xr_i hx hb hr hlk hG hI dX2_countStrangers_45
  replace hE := hZ
  clear hZ
  have hL4 : ∀ (n4 : Nat) (x1 : Int32) (x2 : Int32) (H : Heap) (locs : List Loc) (ls : Array Slot), X2_countStrangers_L4 u n4 x1 x2 = some x3 → xI D (va_A (wX A cI cZ cD u) s.heap.size) s.heap (wX A cI cZ cD u) H locs → lv_has ls 3 [(0, .ref (A 73)), (1, .int x1), (2, .int x2)] → W p l e (rmOf 0 0) s m ([.ref (A 73)] : List Value).toArray below meth c H locs 0 0 (xQ D (tyL cI cZ cD) below ([.ref (A 73)] : List Value).toArray s (wX A cI cZ cD u) (some (.int r)) (wX A cI cZ cD u)) (F0 m 4 ls []) := by
    intro n4
    induction n4 with
    | zero =>
      intro x1 x2 H locs ls hE
      exact absurd hE (by simp [X2_countStrangers_L4])
    | succ n4 ih4 =>
      intro x1 x2 H locs ls hE hI hl
      rw [X2_countStrangers_L4] at hE
      refine lv_iload_n hx hb dX2_countStrangers_4 rfl (lv_at hl 2 rfl) ?_
      refine lv_bipush (v := 16) hx hb dX2_countStrangers_5 (by decide) ?_
      refine lv_icmp_ge (tgt := 44) hx hb dX2_countStrangers_7 (by decide) (fun c7 => ?_) (fun c7 => ?_)
      · rw [if_pos c7] at hE
        obtain rfl := sm1 hE
        exact hX4_3 _ _ _ hI (lv_sub hl [1] rfl)
      · rw [if_neg c7] at hE
        refine lv_iload_n hx hb dX2_countStrangers_10 rfl (lv_at hl 1 rfl) ?_
        refine lv_aload_n hx hb dX2_countStrangers_11 rfl (lv_at hl 0 rfl) ?_
        refine xg_get (C := RX2) (T := TX2) (M := 3) hx hb hown hG hI (by omega) eX_73 rfl inX2 1 (by decide) kf_X2_15 rfl dX2_countStrangers_12 ?_
        refine lv_iload_n hx hb dX2_countStrangers_15 rfl (lv_at hl 2 rfl) ?_
        obtain ⟨v5, hv, hE⟩ := bd1_some hE
        refine xg_iald 0 hx hb hG hI (by omega) eX_75 rfl hv dX2_countStrangers_16 ?_
        refine lv_iconst (v := (-1)) hx hb dX2_countStrangers_17 (by decide) ?_
        obtain ⟨x6, hZ, hE⟩ := bd1_some hE
        have hJ36_6 : ∀ (H : Heap) (locs : List Loc) (ls : Array Slot), xI D (va_A (wX A cI cZ cD u) s.heap.size) s.heap (wX A cI cZ cD u) H locs → lv_has ls 3 [(0, .ref (A 73)), (2, .int x2)] → W p l e (rmOf 0 0) s m ([.ref (A 73)] : List Value).toArray below meth c H locs 0 0 (xQ D (tyL cI cZ cD) below ([.ref (A 73)] : List Value).toArray s (wX A cI cZ cD u) (some (.int r)) (wX A cI cZ cD u)) (F0 m 36 ls [.int x6, .int x1]) := by
          intro H locs ls hI hl
          clear hZ
          refine lv_iadd hx hb dX2_countStrangers_36 ?_
          refine lv_istore_n (lv' := [(1, .int (x1 + x6)), (0, .ref (A 73)), (2, .int x2)]) hx hb dX2_countStrangers_37 rfl hl (by decide) rfl (fun ls hl => ?_)
          refine lv_iinc (v := x2 + 1) (lv' := [(2, .int (x2 + 1)), (1, .int (x1 + x6)), (0, .ref (A 73))]) hx hb dX2_countStrangers_38 hl (k := 2) rfl rfl (by decide) rfl (fun ls hl => ?_)
          refine lv_goto (tgt := 4) hx hb dX2_countStrangers_41 (by decide) ?_
          exact ih4 _ _ _ _ _ hE hI (lv_sub hl [2, 1, 0] rfl)
        replace hE := hZ
        clear hZ
        refine lv_icmp_eq (tgt := 35) hx hb dX2_countStrangers_18 (by decide) (fun c18 => ?_) (fun c18 => ?_)
        · rw [if_pos c18] at hE
          refine lv_iconst (v := 0) hx hb dX2_countStrangers_35 (by decide) ?_
          obtain rfl := sm1 hE
          exact hJ36_6 _ _ _ hI (lv_sub hl [0, 2] rfl)
        · rw [if_neg c18] at hE
          refine lv_aload_n hx hb dX2_countStrangers_21 rfl (lv_at hl 0 rfl) ?_
          refine xg_get (C := RX2) (T := TX2) (M := 3) hx hb hown hG hI (by omega) eX_73 rfl inX2 1 (by decide) kf_X2_15 rfl dX2_countStrangers_22 ?_
          refine lv_iload_n hx hb dX2_countStrangers_25 rfl (lv_at hl 2 rfl) ?_
          obtain ⟨v8, hv, hE⟩ := bd1_some hE
          refine xg_iald 0 hx hb hG hI (by omega) eX_75 rfl hv dX2_countStrangers_26 ?_
          refine lv_iload_n hx hb dX2_countStrangers_27 rfl (lv_at hl 2 rfl) ?_
          refine lv_icmp_eq (tgt := 35) hx hb dX2_countStrangers_28 (by decide) (fun c28 => ?_) (fun c28 => ?_)
          · rw [if_pos c28] at hE
            refine lv_iconst (v := 0) hx hb dX2_countStrangers_35 (by decide) ?_
            obtain rfl := sm1 hE
            exact hJ36_6 _ _ _ hI (lv_sub hl [0, 2] rfl)
          · rw [if_neg c28] at hE
            refine lv_iconst (v := 1) hx hb dX2_countStrangers_31 (by decide) ?_
            refine lv_goto (tgt := 36) hx hb dX2_countStrangers_32 (by decide) ?_
            obtain rfl := sm1 hE
            exact hJ36_6 _ _ _ hI (lv_sub hl [0, 2] rfl)
  exact hL4 _ _ _ _ _ _ hE hI (lv_sub hl [2, 1, 0] rfl)
