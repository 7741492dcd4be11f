def X9_bring_L3 (p0 : Nat) (p1 : Int32) (p2 : Nat) (p3 : Int32) (p4 : Int32) : Nat → Int32 → Mem → Option (Mem)
  | 0, _, _ => none
  | n3 + 1, x1, mu2 =>
    (if p4 ≤ x1 then some mu2 else (rd (lenY p0) (mu2 p0) (p1 + x1)).bind fun v5 => (stI (lenY p2) mu2 p2 (p3 + x1) v5).bind fun mu6 => X9_bring_L3 p0 p1 p2 p3 p4 n3 (x1 + 1) mu6)
def X9_bring (u : Mem) (p0 : Nat) (p1 : Int32) (p2 : Nat) (p3 : Int32) (p4 : Int32) : Option (Mem) :=
  (X9_bring_L3 p0 p1 p2 p3 p4 fu 0 u : Option Mem).bind fun (mu3 : Mem) => some mu3
set_option maxHeartbeats 4000000 in
set_option maxRecDepth 100000 in
theorem c_X9_bring {l : Launch} {D : va_G} {A : Nat → Nat} {cI cZ cD : ClassId} {u u1 : Mem} {p0 : Nat} {p1 : Int32} {p2 : Nat} {p3 : Int32} {p4 : Int32} (hp0 : 1 ≤ p0 ∧ p0 < 15) (hp2 : 1 ≤ p2 ∧ p2 < 15) (hE : X9_bring u p0 p1 p2 p3 p4 = some (u1)) : Ct l yX9_bring cX9_bring 6 none (rmOf 0 0) D (tyL cI cZ cD) [.ref (A p0), .int p1, .ref (A p2), .int p3, .int p4] (wY A cI u) none (wY A cI u1) := by
  refine Ct.ofW (by decide +kernel) (fun p e s m below meth c hC hI => ?_)
  obtain ⟨hx, hb, hml, hown, hr, hlk, hG⟩ := hC
  have hown : s.vm.findClass RX9 = some m.cls := hown
  have hl := lv_entry ([.ref (A p0), .int p1, .ref (A p2), .int p3, .int p4] : List Value) (n := 6) (Nat.le_of_ble_eq_true rfl)
  rw [lg_entry_eq]
  generalize (lg_sl ([.ref (A p0), .int p1, .ref (A p2), .int p3, .int p4] : List Value) ++ List.replicate (6 - (lg_sl ([.ref (A p0), .int p1, .ref (A p2), .int p3, .int p4] : List Value)).length) Slot.unset).toArray = ls at hl ⊢
  have hl : lv_has ls 6 [(0, .ref (A p0)), (1, .int p1), (2, .ref (A p2)), (3, .int p3), (4, .int p4)] := hl
  unfold X9_bring at hE
  refine lv_iconst (v := 0) hx hb dX9_bring_0 (by decide) ?_
  refine lv_istore (lv' := [(5, .int 0), (0, .ref (A p0)), (1, .int p1), (2, .ref (A p2)), (3, .int p3), (4, .int p4)]) hx hb dX9_bring_1 hl (by decide) rfl (fun ls hl => ?_)
  obtain ⟨mu3, hZ, hE⟩ := bd1_some hE
  have hX3_3 : ∀ (H : Heap) (locs : List Loc) (ls : Array Slot), xI D (va_A (wY A cI u) s.heap.size) s.heap (wY A cI mu3) H locs → lv_has ls 6 [] → W p l e (rmOf 0 0) s m ([.ref (A p0), .int p1, .ref (A p2), .int p3, .int p4] : List Value).toArray below meth c H locs 0 0 (xQ D (tyL cI cZ cD) below ([.ref (A p0), .int p1, .ref (A p2), .int p3, .int p4] : List Value).toArray s (wY A cI u) none (wY A cI u1)) (F0 m 28 ls []) := by
    intro H locs ls hI hl
    clear hZ
    obtain rfl := sm1 hE
    exact xr_v hx hb hr hlk hG hI dX9_bring_28
  replace hE := hZ
  clear hZ
  have hL3 : ∀ (n3 : Nat) (x1 : Int32) (mu2 : Mem) (H : Heap) (locs : List Loc) (ls : Array Slot), X9_bring_L3 p0 p1 p2 p3 p4 n3 x1 mu2 = some mu3 → xI D (va_A (wY A cI u) s.heap.size) s.heap (wY A cI mu2) H locs → lv_has ls 6 [(0, .ref (A p0)), (1, .int p1), (2, .ref (A p2)), (3, .int p3), (4, .int p4), (5, .int x1)] → W p l e (rmOf 0 0) s m ([.ref (A p0), .int p1, .ref (A p2), .int p3, .int p4] : List Value).toArray below meth c H locs 0 0 (xQ D (tyL cI cZ cD) below ([.ref (A p0), .int p1, .ref (A p2), .int p3, .int p4] : List Value).toArray s (wY A cI u) none (wY A cI u1)) (F0 m 3 ls []) := by
    intro n3
    induction n3 with
    | zero =>
      intro x1 mu2 H locs ls hE
      exact absurd hE (by simp [X9_bring_L3])
    | succ n3 ih3 =>
      intro x1 mu2 H locs ls hE hI hl
      rw [X9_bring_L3] at hE
      refine lv_iload hx hb dX9_bring_3 (lv_at hl 5 rfl) ?_
      refine lv_iload hx hb dX9_bring_5 (lv_at hl 4 rfl) ?_
      refine lv_icmp_ge (tgt := 28) hx hb dX9_bring_7 (by decide) (fun c7 => ?_) (fun c7 => ?_)
      · rw [if_pos c7] at hE
        obtain rfl := sm1 hE
        exact hX3_3 _ _ _ hI (lv_sub hl [] rfl)
      · rw [if_neg c7] at hE
        refine lv_aload_n hx hb dX9_bring_10 rfl (lv_at hl 2 rfl) ?_
        refine lv_iload_n hx hb dX9_bring_11 rfl (lv_at hl 3 rfl) ?_
        refine lv_iload hx hb dX9_bring_12 (lv_at hl 5 rfl) ?_
        refine lv_iadd hx hb dX9_bring_14 ?_
        refine lv_aload_n hx hb dX9_bring_15 rfl (lv_at hl 0 rfl) ?_
        refine lv_iload_n hx hb dX9_bring_16 rfl (lv_at hl 1 rfl) ?_
        refine lv_iload hx hb dX9_bring_17 (lv_at hl 5 rfl) ?_
        refine lv_iadd hx hb dX9_bring_19 ?_
        obtain ⟨v5, hv, hE⟩ := bd1_some hE
        refine xg_iald 0 hx hb hG hI (by omega) (eY_a (i := p0) (by omega)) rfl hv dX9_bring_20 ?_
        obtain ⟨mu6, hv, hE⟩ := bd1_some hE
        refine xg_iast 0 hx hb hG hI (by omega) (eY_a (i := p2) (by omega)) rfl hv dX9_bring_21 (fun H locs hI => ?_)
        refine lv_iinc (v := x1 + 1) (lv' := [(5, .int (x1 + 1)), (0, .ref (A p0)), (1, .int p1), (2, .ref (A p2)), (3, .int p3), (4, .int p4)]) hx hb dX9_bring_22 hl (k := 5) rfl rfl (by decide) rfl (fun ls hl => ?_)
        refine lv_goto (tgt := 3) hx hb dX9_bring_25 (by decide) ?_
        exact ih3 _ _ _ _ _ hE hI (lv_sub hl [1, 2, 3, 4, 5, 0] rfl)
  exact hL3 _ _ _ _ _ _ hE hI (lv_sub hl [1, 2, 3, 4, 5, 0] rfl)
def X9_refuse (u : Mem) (p1 : Int32) : Option (Int32 × Mem) :=
  (rd 3 (u 5) ((-2) - p1)).bind fun v1 => (stI 3 u 5 ((-2) - p1) (v1 + 1)).bind fun mu2 => some (p1, mu2)
set_option maxHeartbeats 4000000 in
set_option maxRecDepth 100000 in
theorem c_X9_refuse {l : Launch} {D : va_G} {A : Nat → Nat} {cI cZ cD : ClassId} {u u1 : Mem} {p1 : Int32} {r : Int32}  (hE : X9_refuse u p1 = some (r, u1)) : Ct l yX9_refuse cX9_refuse 2 (some .int) (rmOf 0 0) D (tyL cI cZ cD) [.ref (A 0), .int p1] (wY A cI u) (some (.int r)) (wY A cI u1) := by
  refine Ct.ofW (by decide +kernel) (fun p e s m below meth c hC hI => ?_)
  obtain ⟨hx, hb, hml, hown, hr, hlk, hG⟩ := hC
  have hown : s.vm.findClass RX9 = some m.cls := hown
  have hl := lv_entry ([.ref (A 0), .int p1] : List Value) (n := 2) (Nat.le_of_ble_eq_true rfl)
  rw [lg_entry_eq]
  generalize (lg_sl ([.ref (A 0), .int p1] : List Value) ++ List.replicate (2 - (lg_sl ([.ref (A 0), .int p1] : List Value)).length) Slot.unset).toArray = ls at hl ⊢
  have hl : lv_has ls 2 [(0, .ref (A 0)), (1, .int p1)] := hl
  unfold X9_refuse at hE
  refine lv_aload_n hx hb dX9_refuse_0 rfl (lv_at hl 0 rfl) ?_
  refine xg_get (C := RX9) (T := TX9) (M := 22) hx hb hown hG hI (by omega) eY_0 rfl inX9 5 (by decide) kf_X9_22 rfl dX9_refuse_1 ?_
  refine lv_bipush (v := (-2)) hx hb dX9_refuse_4 (by decide) ?_
  refine lv_iload_n hx hb dX9_refuse_6 rfl (lv_at hl 1 rfl) ?_
  refine lv_isub hx hb dX9_refuse_7 ?_
  refine lv_dup2_11 hx hb dX9_refuse_8 rfl rfl ?_
  obtain ⟨v1, hv, hE⟩ := bd1_some hE
  refine xg_iald 0 hx hb hG hI (by omega) eY_5 rfl hv dX9_refuse_9 ?_
  refine lv_iconst (v := 1) hx hb dX9_refuse_10 (by decide) ?_
  refine lv_iadd hx hb dX9_refuse_11 ?_
  obtain ⟨mu2, hv, hE⟩ := bd1_some hE
  refine xg_iast 0 hx hb hG hI (by omega) eY_5 rfl hv dX9_refuse_12 (fun H locs hI => ?_)
  refine lv_iload_n hx hb dX9_refuse_13 rfl (lv_at hl 1 rfl) ?_
  obtain ⟨rfl, rfl⟩ := sm2 hE
  exact xr_i hx hb hr hlk hG hI dX9_refuse_14
def X9_save (u : Mem) : Option (Mem) :=
  (X9_bring u 1 0 2 0 258 : Option Mem).bind fun (mu1 : Mem) => some mu1
set_option maxHeartbeats 4000000 in
set_option maxRecDepth 100000 in
theorem c_X9_save {l : Launch} {D : va_G} {A : Nat → Nat} {cI cZ cD : ClassId} {u u1 : Mem}  (hE : X9_save u = some (u1)) : Ct l yX9_save cX9_save 1 none (rmOf 1 25) D (tyL cI cZ cD) [.ref (A 0)] (wY A cI u) none (wY A cI u1) := by
  refine Ct.ofW (by decide +kernel) (fun p e s m below meth c hC hI => ?_)
  obtain ⟨hx, hb, hml, hown, hr, hlk, hG⟩ := hC
  have hown : s.vm.findClass RX9 = some m.cls := hown
  have hl := lv_entry ([.ref (A 0)] : List Value) (n := 1) (Nat.le_of_ble_eq_true rfl)
  rw [lg_entry_eq]
  generalize (lg_sl ([.ref (A 0)] : List Value) ++ List.replicate (1 - (lg_sl ([.ref (A 0)] : List Value)).length) Slot.unset).toArray = ls at hl ⊢
  have hl : lv_has ls 1 [(0, .ref (A 0))] := hl
  unfold X9_save at hE
  refine lv_aload_n hx hb dX9_save_0 rfl (lv_at hl 0 rfl) ?_
  refine xg_get (C := RX9) (T := TX9) (M := 22) hx hb hown hG hI (by omega) eY_0 rfl inX9 0 (by decide) kf_X9_7 rfl dX9_save_1 ?_
  refine lv_iconst (v := 0) hx hb dX9_save_4 (by decide) ?_
  refine lv_aload_n hx hb dX9_save_5 rfl (lv_at hl 0 rfl) ?_
  refine xg_get (C := RX9) (T := TX9) (M := 22) hx hb hown hG hI (by omega) eY_0 rfl inX9 1 (by decide) kf_X9_13 rfl dX9_save_6 ?_
  refine lv_iconst (v := 0) hx hb dX9_save_9 (by decide) ?_
  refine lv_sipush (v := 258) hx hb dX9_save_10 (by decide) ?_
  obtain ⟨mu1, hc, hE⟩ := bd1_some hE
  refine xc_S0 (rest := []) (c_X9_bring (by omega) (by omega) hc) mw_X9_bring km_X9_52 hx hb hml hown hG hI xA_of ⟨Nat.le_of_ble_eq_true rfl, Nat.le_of_ble_eq_true rfl⟩ rfl hl.1 rfl (Nat.le_of_ble_eq_true rfl) dX9_save_13 (fun H locs hI => ?_)
  obtain rfl := sm1 hE
  exact xr_v hx hb hr hlk hG hI dX9_save_16
def X9_finish (u : Mem) (p1 : Int32) : Option (Int32 × Mem) :=
  (X9_isRefused p1 : Option Bool).bind fun (r1 : Bool) => (if (b2i r1) = 0 then ((if (u 0 4) = 5 then (X9_bring u 4 258 4 0 1032 : Option Mem).bind fun (mu6 : Mem) => (stF mu6 0 4 ((mu6 0 4) - 1)).bind fun mu7 => some mu7 else some u) : Option Mem).bind fun (mu2 : Mem) => (X9_bring mu2 2 0 4 (258 * (mu2 0 4)) 258 : Option Mem).bind fun (mu4 : Mem) => (stF mu4 0 4 ((mu4 0 4) + 1)).bind fun mu5 => some (p1, mu5) else bd2 (X9_refuse u p1) fun (r8 : Int32) (mu9 : Mem) => some (r8, mu9))
set_option maxHeartbeats 4000000 in
set_option maxRecDepth 100000 in
theorem c_X9_finish {l : Launch} {D : va_G} {A : Nat → Nat} {cI cZ cD : ClassId} {u u1 : Mem} {p1 : Int32} {r : Int32}  (hE : X9_finish u p1 = some (r, u1)) : Ct l yX9_finish cX9_finish 2 (some .int) (rmOf 1 25) D (tyL cI cZ cD) [.ref (A 0), .int p1] (wY A cI u) (some (.int r)) (wY A cI u1) := by
  refine Ct.ofW (by decide +kernel) (fun p e s m below meth c hC hI => ?_)
  obtain ⟨hx, hb, hml, hown, hr, hlk, hG⟩ := hC
  have hown : s.vm.findClass RX9 = some m.cls := hown
  have hl := lv_entry ([.ref (A 0), .int p1] : List Value) (n := 2) (Nat.le_of_ble_eq_true rfl)
  rw [lg_entry_eq]
  generalize (lg_sl ([.ref (A 0), .int p1] : List Value) ++ List.replicate (2 - (lg_sl ([.ref (A 0), .int p1] : List Value)).length) Slot.unset).toArray = ls at hl ⊢
  have hl : lv_has ls 2 [(0, .ref (A 0)), (1, .int p1)] := hl
  unfold X9_finish at hE
  refine lv_iload_n hx hb dX9_finish_0 rfl (lv_at hl 1 rfl) ?_
  obtain ⟨r1, hc, hE⟩ := bd1_some hE
  refine xc_S1 (rest := []) (c_X9_isRefused hc) mw_X9_isRefused km_X9_56 hx hb hml hown hG hI xA_of ⟨Nat.le_of_ble_eq_true rfl, Nat.le_of_ble_eq_true rfl⟩ rfl hl.1 rfl (Nat.le_of_ble_eq_true rfl) dX9_finish_1 (fun H locs hI => ?_)
  refine lv_if_eq (tgt := 13) hx hb dX9_finish_4 (by decide) (fun c4 => ?_) (fun c4 => ?_)
  · rw [if_pos c4] at hE
    refine lv_aload_n hx hb dX9_finish_13 rfl (lv_at hl 0 rfl) ?_
    refine xg_get (C := RX9) (T := TX9) (M := 22) hx hb hown hG hI (by omega) eY_0 rfl inX9 4 (by decide) kf_X9_64 rfl dX9_finish_14 ?_
    refine lv_iconst (v := 5) hx hb dX9_finish_17 (by decide) ?_
    obtain ⟨mu2, hZ, hE⟩ := bd1_some hE
    have hJ49_2 : ∀ (H : Heap) (locs : List Loc) (ls : Array Slot), xI D (va_A (wY A cI u) s.heap.size) s.heap (wY A cI mu2) H locs → lv_has ls 2 [(0, .ref (A 0)), (1, .int p1)] → W p l e (rmOf 1 25) s m ([.ref (A 0), .int p1] : List Value).toArray below meth c H locs 0 0 (xQ D (tyL cI cZ cD) below ([.ref (A 0), .int p1] : List Value).toArray s (wY A cI u) (some (.int r)) (wY A cI u1)) (F0 m 49 ls []) := by
      intro H locs ls hI hl
      clear hZ
      refine lv_aload_n hx hb dX9_finish_49 rfl (lv_at hl 0 rfl) ?_
      refine xg_get (C := RX9) (T := TX9) (M := 22) hx hb hown hG hI (by omega) eY_0 rfl inX9 1 (by decide) kf_X9_13 rfl dX9_finish_50 ?_
      refine lv_iconst (v := 0) hx hb dX9_finish_53 (by decide) ?_
      refine lv_aload_n hx hb dX9_finish_54 rfl (lv_at hl 0 rfl) ?_
      refine xg_get (C := RX9) (T := TX9) (M := 22) hx hb hown hG hI (by omega) eY_0 rfl inX9 3 (by decide) kf_X9_19 rfl dX9_finish_55 ?_
      refine lv_sipush (v := 258) hx hb dX9_finish_58 (by decide) ?_
      refine lv_aload_n hx hb dX9_finish_61 rfl (lv_at hl 0 rfl) ?_
      refine xg_get (C := RX9) (T := TX9) (M := 22) hx hb hown hG hI (by omega) eY_0 rfl inX9 4 (by decide) kf_X9_64 rfl dX9_finish_62 ?_
      refine lv_imul hx hb dX9_finish_65 ?_
      refine lv_sipush (v := 258) hx hb dX9_finish_66 (by decide) ?_
      obtain ⟨mu4, hc, hE⟩ := bd1_some hE
      refine xc_S0 (rest := []) (c_X9_bring (by omega) (by omega) hc) mw_X9_bring km_X9_52 hx hb hml hown hG hI xA_of ⟨Nat.le_of_ble_eq_true rfl, Nat.le_of_ble_eq_true rfl⟩ rfl hl.1 rfl (Nat.le_of_ble_eq_true rfl) dX9_finish_69 (fun H locs hI => ?_)
      refine lv_aload_n hx hb dX9_finish_72 rfl (lv_at hl 0 rfl) ?_
      refine lv_dup hx hb dX9_finish_73 rfl ?_
      refine xg_get (C := RX9) (T := TX9) (M := 22) hx hb hown hG hI (by omega) eY_0 rfl inX9 4 (by decide) kf_X9_64 rfl dX9_finish_74 ?_
      refine lv_iconst (v := 1) hx hb dX9_finish_77 (by decide) ?_
      refine lv_iadd hx hb dX9_finish_78 ?_
      obtain ⟨mu5, hu, hE⟩ := bd1_some hE
      refine xg_put (C := RX9) (T := TX9) (M := 22) hx hb hown hG hI (by omega) eY_0 rfl inX9 tyX9 tyX9_ok nmX9 4 (by decide) kf_X9_64 rfl (ty := .int) (by decide +kernel) rfl rfl (Nat.le_of_ble_eq_true rfl) rfl hu dX9_finish_79 (fun H locs hI => ?_)
      refine lv_iload_n hx hb dX9_finish_82 rfl (lv_at hl 1 rfl) ?_
      obtain ⟨rfl, rfl⟩ := sm2 hE
      exact xr_i hx hb hr hlk hG hI dX9_finish_83
    replace hE := hZ
    clear hZ
    refine lv_icmp_ne (tgt := 49) hx hb dX9_finish_18 (by decide) (fun c18 => ?_) (fun c18 => ?_)
    · rw [if_neg c18] at hE
      obtain rfl := sm1 hE
      exact hJ49_2 _ _ _ hI (lv_sub hl [0, 1] rfl)
    · rw [if_pos c18] at hE
      refine lv_aload_n hx hb dX9_finish_21 rfl (lv_at hl 0 rfl) ?_
      refine xg_get (C := RX9) (T := TX9) (M := 22) hx hb hown hG hI (by omega) eY_0 rfl inX9 3 (by decide) kf_X9_19 rfl dX9_finish_22 ?_
      refine lv_sipush (v := 258) hx hb dX9_finish_25 (by decide) ?_
      refine lv_aload_n hx hb dX9_finish_28 rfl (lv_at hl 0 rfl) ?_
      refine xg_get (C := RX9) (T := TX9) (M := 22) hx hb hown hG hI (by omega) eY_0 rfl inX9 3 (by decide) kf_X9_19 rfl dX9_finish_29 ?_
      refine lv_iconst (v := 0) hx hb dX9_finish_32 (by decide) ?_
      refine lv_sipush (v := 1032) hx hb dX9_finish_33 (by decide) ?_
      obtain ⟨mu6, hc, hE⟩ := bd1_some hE
      refine xc_S0 (rest := []) (c_X9_bring (by omega) (by omega) hc) mw_X9_bring km_X9_52 hx hb hml hown hG hI xA_of ⟨Nat.le_of_ble_eq_true rfl, Nat.le_of_ble_eq_true rfl⟩ rfl hl.1 rfl (Nat.le_of_ble_eq_true rfl) dX9_finish_36 (fun H locs hI => ?_)
      refine lv_aload_n hx hb dX9_finish_39 rfl (lv_at hl 0 rfl) ?_
      refine lv_dup hx hb dX9_finish_40 rfl ?_
      refine xg_get (C := RX9) (T := TX9) (M := 22) hx hb hown hG hI (by omega) eY_0 rfl inX9 4 (by decide) kf_X9_64 rfl dX9_finish_41 ?_
      refine lv_iconst (v := 1) hx hb dX9_finish_44 (by decide) ?_
      refine lv_isub hx hb dX9_finish_45 ?_
      obtain ⟨mu7, hu, hE⟩ := bd1_some hE
      refine xg_put (C := RX9) (T := TX9) (M := 22) hx hb hown hG hI (by omega) eY_0 rfl inX9 tyX9 tyX9_ok nmX9 4 (by decide) kf_X9_64 rfl (ty := .int) (by decide +kernel) rfl rfl (Nat.le_of_ble_eq_true rfl) rfl hu dX9_finish_46 (fun H locs hI => ?_)
      obtain rfl := sm1 hE
      exact hJ49_2 _ _ _ hI (lv_sub hl [0, 1] rfl)
  · rw [if_neg c4] at hE
    refine lv_aload_n hx hb dX9_finish_7 rfl (lv_at hl 0 rfl) ?_
    refine lv_iload_n hx hb dX9_finish_8 rfl (lv_at hl 1 rfl) ?_
    obtain ⟨r8, mu9, hc, hE⟩ := bd2_some hE
    refine xc_V1 (rest := []) (c_X9_refuse hc) mw_X9_refuse km_X9_60 hx hb hml hown hG hI xA_of (wG_atE (by omega) eY_0) rfl rfl ⟨Nat.le_of_ble_eq_true rfl, Nat.le_of_ble_eq_true rfl⟩ rfl hl.1 rfl (Nat.le_of_ble_eq_true rfl) dX9_finish_9 (fun H locs hI => ?_)
    obtain ⟨rfl, rfl⟩ := sm2 hE
    exact xr_i hx hb hr hlk hG hI dX9_finish_12
def X9_isIn (u : Mem) (p1 : Int32) (p2 : Int32) : Option (Bool) :=
  (rd 258 (u 1) ((64 * p1) + p2)).bind fun v1 => (if v1 = (-9) then some false else some true)
set_option maxHeartbeats 4000000 in
set_option maxRecDepth 100000 in
theorem c_X9_isIn {l : Launch} {D : va_G} {A : Nat → Nat} {cI cZ cD : ClassId} {u : Mem} {p1 : Int32} {p2 : Int32} {r : Bool}  (hE : X9_isIn u p1 p2 = some (r)) : Ct l yX9_isIn cX9_isIn 3 (some .boolean) (rmOf 0 0) D (tyL cI cZ cD) [.ref (A 0), .int p1, .int p2] (wY A cI u) (some (.int (b2i r))) (wY A cI u) := by
  refine Ct.ofW (by decide +kernel) (fun p e s m below meth c hC hI => ?_)
  obtain ⟨hx, hb, hml, hown, hr, hlk, hG⟩ := hC
  have hown : s.vm.findClass RX9 = some m.cls := hown
  have hl := lv_entry ([.ref (A 0), .int p1, .int p2] : List Value) (n := 3) (Nat.le_of_ble_eq_true rfl)
  rw [lg_entry_eq]
  generalize (lg_sl ([.ref (A 0), .int p1, .int p2] : List Value) ++ List.replicate (3 - (lg_sl ([.ref (A 0), .int p1, .int p2] : List Value)).length) Slot.unset).toArray = ls at hl ⊢
  have hl : lv_has ls 3 [(0, .ref (A 0)), (1, .int p1), (2, .int p2)] := hl
  unfold X9_isIn at hE
  refine lv_aload_n hx hb dX9_isIn_0 rfl (lv_at hl 0 rfl) ?_
  refine xg_get (C := RX9) (T := TX9) (M := 22) hx hb hown hG hI (by omega) eY_0 rfl inX9 0 (by decide) kf_X9_7 rfl dX9_isIn_1 ?_
  refine lv_bipush (v := 64) hx hb dX9_isIn_4 (by decide) ?_
  refine lv_iload_n hx hb dX9_isIn_6 rfl (lv_at hl 1 rfl) ?_
  refine lv_imul hx hb dX9_isIn_7 ?_
  refine lv_iload_n hx hb dX9_isIn_8 rfl (lv_at hl 2 rfl) ?_
  refine lv_iadd hx hb dX9_isIn_9 ?_
  obtain ⟨v1, hv, hE⟩ := bd1_some hE
  refine xg_iald 0 hx hb hG hI (by omega) eY_1 rfl hv dX9_isIn_10 ?_
  refine lv_bipush (v := (-9)) hx hb dX9_isIn_11 (by decide) ?_
  refine lv_icmp_eq (tgt := 20) hx hb dX9_isIn_13 (by decide) (fun c13 => ?_) (fun c13 => ?_)
  · rw [if_pos c13] at hE
    refine lv_iconst (v := 0) hx hb dX9_isIn_20 (by decide) ?_
    obtain rfl := sm1 hE
    exact xr_z rfl hx hb hr hlk hG hI dX9_isIn_21
  · rw [if_neg c13] at hE
    refine lv_iconst (v := 1) hx hb dX9_isIn_16 (by decide) ?_
    refine lv_goto (tgt := 21) hx hb dX9_isIn_17 (by decide) ?_
    obtain rfl := sm1 hE
    exact xr_z rfl hx hb hr hlk hG hI dX9_isIn_21
def X9_isThere (u : Mem) (p1 : Int32) (p2 : Int32) : Option (Bool) :=
  (X9_in p2 0 15 : Option Bool).bind fun (r1 : Bool) => (if (b2i r1) = 0 then some false else (X9_isIn u p1 p2 : Option Bool).bind fun (r2 : Bool) => (if (b2i r2) = 0 then some false else some true))
set_option maxHeartbeats 4000000 in
set_option maxRecDepth 100000 in
theorem c_X9_isThere {l : Launch} {D : va_G} {A : Nat → Nat} {cI cZ cD : ClassId} {u : Mem} {p1 : Int32} {p2 : Int32} {r : Bool}  (hE : X9_isThere u p1 p2 = some (r)) : Ct l yX9_isThere cX9_isThere 3 (some .boolean) (rmOf 1 22) D (tyL cI cZ cD) [.ref (A 0), .int p1, .int p2] (wY A cI u) (some (.int (b2i r))) (wY A cI u) := by
  refine Ct.ofW (by decide +kernel) (fun p e s m below meth c hC hI => ?_)
  obtain ⟨hx, hb, hml, hown, hr, hlk, hG⟩ := hC
  have hown : s.vm.findClass RX9 = some m.cls := hown
  have hl := lv_entry ([.ref (A 0), .int p1, .int p2] : List Value) (n := 3) (Nat.le_of_ble_eq_true rfl)
  rw [lg_entry_eq]
  generalize (lg_sl ([.ref (A 0), .int p1, .int p2] : List Value) ++ List.replicate (3 - (lg_sl ([.ref (A 0), .int p1, .int p2] : List Value)).length) Slot.unset).toArray = ls at hl ⊢
  have hl : lv_has ls 3 [(0, .ref (A 0)), (1, .int p1), (2, .int p2)] := hl
  unfold X9_isThere at hE
  refine lv_iload_n hx hb dX9_isThere_0 rfl (lv_at hl 2 rfl) ?_
  refine lv_iconst (v := 0) hx hb dX9_isThere_1 (by decide) ?_
  refine lv_bipush (v := 15) hx hb dX9_isThere_2 (by decide) ?_
  obtain ⟨r1, hc, hE⟩ := bd1_some hE
  refine xc_S1 (rest := []) (c_X9_in hc) mw_X9_in km_X9_68 hx hb hml hown hG hI xA_of ⟨Nat.le_of_ble_eq_true rfl, Nat.le_of_ble_eq_true rfl⟩ rfl hl.1 rfl (Nat.le_of_ble_eq_true rfl) dX9_isThere_4 (fun H locs hI => ?_)
  refine lv_if_eq (tgt := 23) hx hb dX9_isThere_7 (by decide) (fun c7 => ?_) (fun c7 => ?_)
  · rw [if_pos c7] at hE
    refine lv_iconst (v := 0) hx hb dX9_isThere_23 (by decide) ?_
    obtain rfl := sm1 hE
    exact xr_z rfl hx hb hr hlk hG hI dX9_isThere_24
  · rw [if_neg c7] at hE
    refine lv_aload_n hx hb dX9_isThere_10 rfl (lv_at hl 0 rfl) ?_
    refine lv_iload_n hx hb dX9_isThere_11 rfl (lv_at hl 1 rfl) ?_
    refine lv_iload_n hx hb dX9_isThere_12 rfl (lv_at hl 2 rfl) ?_
    obtain ⟨r2, hc, hE⟩ := bd1_some hE
    refine xc_V1 (rest := []) (c_X9_isIn hc) mw_X9_isIn km_X9_72 hx hb hml hown hG hI xA_of (wG_atE (by omega) eY_0) rfl rfl ⟨Nat.le_of_ble_eq_true rfl, Nat.le_of_ble_eq_true rfl⟩ rfl hl.1 rfl (Nat.le_of_ble_eq_true rfl) dX9_isThere_13 (fun H locs hI => ?_)
    refine lv_if_eq (tgt := 23) hx hb dX9_isThere_16 (by decide) (fun c16 => ?_) (fun c16 => ?_)
    · rw [if_pos c16] at hE
      refine lv_iconst (v := 0) hx hb dX9_isThere_23 (by decide) ?_
      obtain rfl := sm1 hE
      exact xr_z rfl hx hb hr hlk hG hI dX9_isThere_24
    · rw [if_neg c16] at hE
      refine lv_iconst (v := 1) hx hb dX9_isThere_19 (by decide) ?_
      refine lv_goto (tgt := 24) hx hb dX9_isThere_20 (by decide) ?_
      obtain rfl := sm1 hE
      exact xr_z rfl hx hb hr hlk hG hI dX9_isThere_24
def X9_parentOf (u : Mem) (p1 : Int32) (p2 : Int32) : Option (Int32) :=
  (rd 258 (u 1) ((64 * p1) + p2)).bind fun v1 => some v1
set_option maxHeartbeats 4000000 in
set_option maxRecDepth 100000 in
theorem c_X9_parentOf {l : Launch} {D : va_G} {A : Nat → Nat} {cI cZ cD : ClassId} {u : Mem} {p1 : Int32} {p2 : Int32} {r : Int32}  (hE : X9_parentOf u p1 p2 = some (r)) : Ct l yX9_parentOf cX9_parentOf 3 (some .int) (rmOf 0 0) D (tyL cI cZ cD) [.ref (A 0), .int p1, .int p2] (wY A cI u) (some (.int r)) (wY A cI u) := by
  refine Ct.ofW (by decide +kernel) (fun p e s m below meth c hC hI => ?_)
  obtain ⟨hx, hb, hml, hown, hr, hlk, hG⟩ := hC
  have hown : s.vm.findClass RX9 = some m.cls := hown
  have hl := lv_entry ([.ref (A 0), .int p1, .int p2] : List Value) (n := 3) (Nat.le_of_ble_eq_true rfl)
  rw [lg_entry_eq]
  generalize (lg_sl ([.ref (A 0), .int p1, .int p2] : List Value) ++ List.replicate (3 - (lg_sl ([.ref (A 0), .int p1, .int p2] : List Value)).length) Slot.unset).toArray = ls at hl ⊢
  have hl : lv_has ls 3 [(0, .ref (A 0)), (1, .int p1), (2, .int p2)] := hl
  unfold X9_parentOf at hE
  refine lv_aload_n hx hb dX9_parentOf_0 rfl (lv_at hl 0 rfl) ?_
  refine xg_get (C := RX9) (T := TX9) (M := 22) hx hb hown hG hI (by omega) eY_0 rfl inX9 0 (by decide) kf_X9_7 rfl dX9_parentOf_1 ?_
  refine lv_bipush (v := 64) hx hb dX9_parentOf_4 (by decide) ?_
  refine lv_iload_n hx hb dX9_parentOf_6 rfl (lv_at hl 1 rfl) ?_
  refine lv_imul hx hb dX9_parentOf_7 ?_
  refine lv_iload_n hx hb dX9_parentOf_8 rfl (lv_at hl 2 rfl) ?_
  refine lv_iadd hx hb dX9_parentOf_9 ?_
  obtain ⟨v1, hv, hE⟩ := bd1_some hE
  refine xg_iald 0 hx hb hG hI (by omega) eY_1 rfl hv dX9_parentOf_10 ?_
  obtain rfl := sm1 hE
  exact xr_i hx hb hr hlk hG hI dX9_parentOf_11
def X9_placeOf (u : Mem) (p1 : Int32) (p2 : Int32) : Option (Int32) :=
  (rd 258 (u 1) (((64 * p1) + 16) + p2)).bind fun v1 => some v1
set_option maxHeartbeats 4000000 in
set_option maxRecDepth 100000 in
theorem c_X9_placeOf {l : Launch} {D : va_G} {A : Nat → Nat} {cI cZ cD : ClassId} {u : Mem} {p1 : Int32} {p2 : Int32} {r : Int32}  (hE : X9_placeOf u p1 p2 = some (r)) : Ct l yX9_placeOf cX9_placeOf 3 (some .int) (rmOf 0 0) D (tyL cI cZ cD) [.ref (A 0), .int p1, .int p2] (wY A cI u) (some (.int r)) (wY A cI u) := by
  refine Ct.ofW (by decide +kernel) (fun p e s m below meth c hC hI => ?_)
  obtain ⟨hx, hb, hml, hown, hr, hlk, hG⟩ := hC
  have hown : s.vm.findClass RX9 = some m.cls := hown
  have hl := lv_entry ([.ref (A 0), .int p1, .int p2] : List Value) (n := 3) (Nat.le_of_ble_eq_true rfl)
  rw [lg_entry_eq]
  generalize (lg_sl ([.ref (A 0), .int p1, .int p2] : List Value) ++ List.replicate (3 - (lg_sl ([.ref (A 0), .int p1, .int p2] : List Value)).length) Slot.unset).toArray = ls at hl ⊢
  have hl : lv_has ls 3 [(0, .ref (A 0)), (1, .int p1), (2, .int p2)] := hl
  unfold X9_placeOf at hE
  refine lv_aload_n hx hb dX9_placeOf_0 rfl (lv_at hl 0 rfl) ?_
  refine xg_get (C := RX9) (T := TX9) (M := 22) hx hb hown hG hI (by omega) eY_0 rfl inX9 0 (by decide) kf_X9_7 rfl dX9_placeOf_1 ?_
  refine lv_bipush (v := 64) hx hb dX9_placeOf_4 (by decide) ?_
  refine lv_iload_n hx hb dX9_placeOf_6 rfl (lv_at hl 1 rfl) ?_
  refine lv_imul hx hb dX9_placeOf_7 ?_
  refine lv_bipush (v := 16) hx hb dX9_placeOf_8 (by decide) ?_
  refine lv_iadd hx hb dX9_placeOf_10 ?_
  refine lv_iload_n hx hb dX9_placeOf_11 rfl (lv_at hl 2 rfl) ?_
  refine lv_iadd hx hb dX9_placeOf_12 ?_
  obtain ⟨v1, hv, hE⟩ := bd1_some hE
  refine xg_iald 0 hx hb hG hI (by omega) eY_1 rfl hv dX9_placeOf_13 ?_
  obtain rfl := sm1 hE
  exact xr_i hx hb hr hlk hG hI dX9_placeOf_14
def X9_nameOf (u : Mem) (p1 : Int32) (p2 : Int32) : Option (Int32) :=
  (rd 258 (u 1) (((64 * p1) + 32) + p2)).bind fun v1 => some v1
set_option maxHeartbeats 4000000 in
set_option maxRecDepth 100000 in
theorem c_X9_nameOf {l : Launch} {D : va_G} {A : Nat → Nat} {cI cZ cD : ClassId} {u : Mem} {p1 : Int32} {p2 : Int32} {r : Int32}  (hE : X9_nameOf u p1 p2 = some (r)) : Ct l yX9_nameOf cX9_nameOf 3 (some .int) (rmOf 0 0) D (tyL cI cZ cD) [.ref (A 0), .int p1, .int p2] (wY A cI u) (some (.int r)) (wY A cI u) := by
  refine Ct.ofW (by decide +kernel) (fun p e s m below meth c hC hI => ?_)
  obtain ⟨hx, hb, hml, hown, hr, hlk, hG⟩ := hC
  have hown : s.vm.findClass RX9 = some m.cls := hown
  have hl := lv_entry ([.ref (A 0), .int p1, .int p2] : List Value) (n := 3) (Nat.le_of_ble_eq_true rfl)
  rw [lg_entry_eq]
  generalize (lg_sl ([.ref (A 0), .int p1, .int p2] : List Value) ++ List.replicate (3 - (lg_sl ([.ref (A 0), .int p1, .int p2] : List Value)).length) Slot.unset).toArray = ls at hl ⊢
  have hl : lv_has ls 3 [(0, .ref (A 0)), (1, .int p1), (2, .int p2)] := hl
  unfold X9_nameOf at hE
  refine lv_aload_n hx hb dX9_nameOf_0 rfl (lv_at hl 0 rfl) ?_
  refine xg_get (C := RX9) (T := TX9) (M := 22) hx hb hown hG hI (by omega) eY_0 rfl inX9 0 (by decide) kf_X9_7 rfl dX9_nameOf_1 ?_
  refine lv_bipush (v := 64) hx hb dX9_nameOf_4 (by decide) ?_
  refine lv_iload_n hx hb dX9_nameOf_6 rfl (lv_at hl 1 rfl) ?_
  refine lv_imul hx hb dX9_nameOf_7 ?_
  refine lv_bipush (v := 32) hx hb dX9_nameOf_8 (by decide) ?_
  refine lv_iadd hx hb dX9_nameOf_10 ?_
  refine lv_iload_n hx hb dX9_nameOf_11 rfl (lv_at hl 2 rfl) ?_
  refine lv_iadd hx hb dX9_nameOf_12 ?_
  obtain ⟨v1, hv, hE⟩ := bd1_some hE
  refine xg_iald 0 hx hb hG hI (by omega) eY_1 rfl hv dX9_nameOf_13 ?_
  obtain rfl := sm1 hE
  exact xr_i hx hb hr hlk hG hI dX9_nameOf_14
def X9_textOf (u : Mem) (p1 : Int32) (p2 : Int32) : Option (Int32) :=
  (rd 258 (u 1) (((64 * p1) + 48) + p2)).bind fun v1 => some v1
set_option maxHeartbeats 4000000 in
set_option maxRecDepth 100000 in
theorem c_X9_textOf {l : Launch} {D : va_G} {A : Nat → Nat} {cI cZ cD : ClassId} {u : Mem} {p1 : Int32} {p2 : Int32} {r : Int32}  (hE : X9_textOf u p1 p2 = some (r)) : Ct l yX9_textOf cX9_textOf 3 (some .int) (rmOf 0 0) D (tyL cI cZ cD) [.ref (A 0), .int p1, .int p2] (wY A cI u) (some (.int r)) (wY A cI u) := by
  refine Ct.ofW (by decide +kernel) (fun p e s m below meth c hC hI => ?_)
  obtain ⟨hx, hb, hml, hown, hr, hlk, hG⟩ := hC
  have hown : s.vm.findClass RX9 = some m.cls := hown
  have hl := lv_entry ([.ref (A 0), .int p1, .int p2] : List Value) (n := 3) (Nat.le_of_ble_eq_true rfl)
  rw [lg_entry_eq]
  generalize (lg_sl ([.ref (A 0), .int p1, .int p2] : List Value) ++ List.replicate (3 - (lg_sl ([.ref (A 0), .int p1, .int p2] : List Value)).length) Slot.unset).toArray = ls at hl ⊢
  have hl : lv_has ls 3 [(0, .ref (A 0)), (1, .int p1), (2, .int p2)] := hl
  unfold X9_textOf at hE
  refine lv_aload_n hx hb dX9_textOf_0 rfl (lv_at hl 0 rfl) ?_
  refine xg_get (C := RX9) (T := TX9) (M := 22) hx hb hown hG hI (by omega) eY_0 rfl inX9 0 (by decide) kf_X9_7 rfl dX9_textOf_1 ?_
  refine lv_bipush (v := 64) hx hb dX9_textOf_4 (by decide) ?_
  refine lv_iload_n hx hb dX9_textOf_6 rfl (lv_at hl 1 rfl) ?_
  refine lv_imul hx hb dX9_textOf_7 ?_
  refine lv_bipush (v := 48) hx hb dX9_textOf_8 (by decide) ?_
  refine lv_iadd hx hb dX9_textOf_10 ?_
  refine lv_iload_n hx hb dX9_textOf_11 rfl (lv_at hl 2 rfl) ?_
  refine lv_iadd hx hb dX9_textOf_12 ?_
  obtain ⟨v1, hv, hE⟩ := bd1_some hE
  refine xg_iald 0 hx hb hG hI (by omega) eY_1 rfl hv dX9_textOf_13 ?_
  obtain rfl := sm1 hE
  exact xr_i hx hb hr hlk hG hI dX9_textOf_14
def X9_childrenOf_L5 (p1 : Int32) (p2 : Int32) (u : Mem) : Nat → Int32 → Int32 → Option (Int32)
  | 0, _, _ => none
  | n5 + 1, x1, x2 =>
    (if 16 ≤ x2 then some x1 else (X9_parentOf u p1 x2 : Option Int32).bind fun (r5 : Int32) => ((if r5 = p2 then some 1 else some 0) : Option Int32).bind fun (x6 : Int32) => X9_childrenOf_L5 p1 p2 u n5 (x1 + x6) (x2 + 1))
def X9_childrenOf (u : Mem) (p1 : Int32) (p2 : Int32) : Option (Int32) :=
  (X9_childrenOf_L5 p1 p2 u fu 0 1 : Option Int32).bind fun (x3 : Int32) => some x3
set_option maxHeartbeats 4000000 in
set_option maxRecDepth 100000 in
theorem c_X9_childrenOf {l : Launch} {D : va_G} {A : Nat → Nat} {cI cZ cD : ClassId} {u : Mem} {p1 : Int32} {p2 : Int32} {r : Int32}  (hE : X9_childrenOf u p1 p2 = some (r)) : Ct l yX9_childrenOf cX9_childrenOf 5 (some .int) (rmOf 1 22) D (tyL cI cZ cD) [.ref (A 0), .int p1, .int p2] (wY A cI u) (some (.int r)) (wY A cI u) := by
  refine Ct.ofW (by decide +kernel) (fun p e s m below meth c hC hI => ?_)
  obtain ⟨hx, hb, hml, hown, hr, hlk, hG⟩ := hC
  have hown : s.vm.findClass RX9 = some m.cls := hown
  have hl := lv_entry ([.ref (A 0), .int p1, .int p2] : List Value) (n := 5) (Nat.le_of_ble_eq_true rfl)
  rw [lg_entry_eq]
  generalize (lg_sl ([.ref (A 0), .int p1, .int p2] : List Value) ++ List.replicate (5 - (lg_sl ([.ref (A 0), .int p1, .int p2] : List Value)).length) Slot.unset).toArray = ls at hl ⊢
  have hl : lv_has ls 5 [(0, .ref (A 0)), (1, .int p1), (2, .int p2)] := hl
  unfold X9_childrenOf at hE
  refine lv_iconst (v := 0) hx hb dX9_childrenOf_0 (by decide) ?_
  refine lv_istore_n (lv' := [(3, .int 0), (0, .ref (A 0)), (1, .int p1), (2, .int p2)]) hx hb dX9_childrenOf_1 rfl hl (by decide) rfl (fun ls hl => ?_)
  refine lv_iconst (v := 1) hx hb dX9_childrenOf_2 (by decide) ?_
  refine lv_istore (lv' := [(4, .int 1), (3, .int 0), (0, .ref (A 0)), (1, .int p1), (2, .int p2)]) hx hb dX9_childrenOf_3 hl (by decide) rfl (fun ls hl => ?_)
  obtain ⟨x3, hZ, hE⟩ := bd1_some hE
  have hX5_3 : ∀ (H : Heap) (locs : List Loc) (ls : Array Slot), xI D (va_A (wY A cI u) s.heap.size) s.heap (wY A cI u) H locs → lv_has ls 5 [(3, .int x3)] → W p l e (rmOf 1 22) s m ([.ref (A 0), .int p1, .int p2] : List Value).toArray below meth c H locs 0 0 (xQ D (tyL cI cZ cD) below ([.ref (A 0), .int p1, .int p2] : List Value).toArray s (wY A cI u) (some (.int r)) (wY A cI u)) (F0 m 37 ls []) := by
    intro H locs ls hI hl
    clear hZ
    refine lv_iload_n hx hb dX9_childrenOf_37 rfl (lv_at hl 0 rfl) ?_
    obtain rfl := sm1 hE
    exact xr_i hx hb hr hlk hG hI dX9_childrenOf_38
  replace hE := hZ
  clear hZ
  have hL5 : ∀ (n5 : Nat) (x1 : Int32) (x2 : Int32) (H : Heap) (locs : List Loc) (ls : Array Slot), X9_childrenOf_L5 p1 p2 u n5 x1 x2 = some x3 → xI D (va_A (wY A cI u) s.heap.size) s.heap (wY A cI u) H locs → lv_has ls 5 [(0, .ref (A 0)), (1, .int p1), (2, .int p2), (3, .int x1), (4, .int x2)] → W p l e (rmOf 1 22) s m ([.ref (A 0), .int p1, .int p2] : List Value).toArray below meth c H locs 0 0 (xQ D (tyL cI cZ cD) below ([.ref (A 0), .int p1, .int p2] : List Value).toArray s (wY A cI u) (some (.int r)) (wY A cI u)) (F0 m 5 ls []) := by
    intro n5
    induction n5 with
    | zero =>
      intro x1 x2 H locs ls hE
      exact absurd hE (by simp [X9_childrenOf_L5])
    | succ n5 ih5 =>
      intro x1 x2 H locs ls hE hI hl
      rw [X9_childrenOf_L5] at hE
      refine lv_iload hx hb dX9_childrenOf_5 (lv_at hl 4 rfl) ?_
      refine lv_bipush (v := 16) hx hb dX9_childrenOf_7 (by decide) ?_
      refine lv_icmp_ge (tgt := 37) hx hb dX9_childrenOf_9 (by decide) (fun c9 => ?_) (fun c9 => ?_)
      · rw [if_pos c9] at hE
        obtain rfl := sm1 hE
        exact hX5_3 _ _ _ hI (lv_sub hl [3] rfl)
      · rw [if_neg c9] at hE
        refine lv_iload_n hx hb dX9_childrenOf_12 rfl (lv_at hl 3 rfl) ?_
        refine lv_aload_n hx hb dX9_childrenOf_13 rfl (lv_at hl 0 rfl) ?_
        refine lv_iload_n hx hb dX9_childrenOf_14 rfl (lv_at hl 1 rfl) ?_
        refine lv_iload hx hb dX9_childrenOf_15 (lv_at hl 4 rfl) ?_
        obtain ⟨r5, hc, hE⟩ := bd1_some hE
        refine xc_V1 (rest := [.int x1]) (c_X9_parentOf hc) mw_X9_parentOf km_X9_76 hx hb hml hown hG hI xA_of (wG_atE (by omega) eY_0) rfl rfl ⟨Nat.le_of_ble_eq_true rfl, Nat.le_of_ble_eq_true rfl⟩ rfl hl.1 rfl (Nat.le_of_ble_eq_true rfl) dX9_childrenOf_17 (fun H locs hI => ?_)
        refine lv_iload_n hx hb dX9_childrenOf_20 rfl (lv_at hl 2 rfl) ?_
        obtain ⟨x6, hZ, hE⟩ := bd1_some hE
        have hJ29_6 : ∀ (H : Heap) (locs : List Loc) (ls : Array Slot), xI D (va_A (wY A cI u) s.heap.size) s.heap (wY A cI u) H locs → lv_has ls 5 [(0, .ref (A 0)), (1, .int p1), (2, .int p2), (4, .int x2)] → W p l e (rmOf 1 22) s m ([.ref (A 0), .int p1, .int p2] : List Value).toArray below meth c H locs 0 0 (xQ D (tyL cI cZ cD) below ([.ref (A 0), .int p1, .int p2] : List Value).toArray s (wY A cI u) (some (.int r)) (wY A cI u)) (F0 m 29 ls [.int x6, .int x1]) := by
          intro H locs ls hI hl
          clear hZ
          refine lv_iadd hx hb dX9_childrenOf_29 ?_
          refine lv_istore_n (lv' := [(3, .int (x1 + x6)), (0, .ref (A 0)), (1, .int p1), (2, .int p2), (4, .int x2)]) hx hb dX9_childrenOf_30 rfl hl (by decide) rfl (fun ls hl => ?_)
          refine lv_iinc (v := x2 + 1) (lv' := [(4, .int (x2 + 1)), (3, .int (x1 + x6)), (0, .ref (A 0)), (1, .int p1), (2, .int p2)]) hx hb dX9_childrenOf_31 hl (k := 4) rfl rfl (by decide) rfl (fun ls hl => ?_)
          refine lv_goto (tgt := 5) hx hb dX9_childrenOf_34 (by decide) ?_
          exact ih5 _ _ _ _ _ hE hI (lv_sub hl [2, 3, 4, 1, 0] rfl)
        replace hE := hZ
        clear hZ
        refine lv_icmp_ne (tgt := 28) hx hb dX9_childrenOf_21 (by decide) (fun c21 => ?_) (fun c21 => ?_)
        · rw [if_neg c21] at hE
          refine lv_iconst (v := 0) hx hb dX9_childrenOf_28 (by decide) ?_
          obtain rfl := sm1 hE
          exact hJ29_6 _ _ _ hI (lv_sub hl [0, 1, 2, 4] rfl)
        · rw [if_pos c21] at hE
          refine lv_iconst (v := 1) hx hb dX9_childrenOf_24 (by decide) ?_
          refine lv_goto (tgt := 29) hx hb dX9_childrenOf_25 (by decide) ?_
          obtain rfl := sm1 hE
          exact hJ29_6 _ _ _ hI (lv_sub hl [0, 1, 2, 4] rfl)
  exact hL5 _ _ _ _ _ _ hE hI (lv_sub hl [2, 3, 4, 1, 0] rfl)
def X9_manyIn_L4 (p1 : Int32) (u : Mem) : Nat → Int32 → Int32 → Option (Int32)
  | 0, _, _ => none
  | n4 + 1, x1, x2 =>
    (if 16 ≤ x2 then some x1 else (X9_isIn u p1 x2 : Option Bool).bind fun (r5 : Bool) => ((if (b2i r5) = 0 then some 0 else some 1) : Option Int32).bind fun (x6 : Int32) => X9_manyIn_L4 p1 u n4 (x1 + x6) (x2 + 1))
def X9_manyIn (u : Mem) (p1 : Int32) : Option (Int32) :=
  (X9_manyIn_L4 p1 u fu 0 0 : Option Int32).bind fun (x3 : Int32) => some x3
set_option maxHeartbeats 4000000 in
set_option maxRecDepth 100000 in
theorem c_X9_manyIn {l : Launch} {D : va_G} {A : Nat → Nat} {cI cZ cD : ClassId} {u : Mem} {p1 : Int32} {r : Int32}  (hE : X9_manyIn u p1 = some (r)) : Ct l yX9_manyIn cX9_manyIn 4 (some .int) (rmOf 1 22) D (tyL cI cZ cD) [.ref (A 0), .int p1] (wY A cI u) (some (.int r)) (wY A cI u) := by
  refine Ct.ofW (by decide +kernel) (fun p e s m below meth c hC hI => ?_)
  obtain ⟨hx, hb, hml, hown, hr, hlk, hG⟩ := hC
  have hown : s.vm.findClass RX9 = some m.cls := hown
  have hl := lv_entry ([.ref (A 0), .int p1] : List Value) (n := 4) (Nat.le_of_ble_eq_true rfl)
  rw [lg_entry_eq]
  generalize (lg_sl ([.ref (A 0), .int p1] : List Value) ++ List.replicate (4 - (lg_sl ([.ref (A 0), .int p1] : List Value)).length) Slot.unset).toArray = ls at hl ⊢
  have hl : lv_has ls 4 [(0, .ref (A 0)), (1, .int p1)] := hl
  unfold X9_manyIn at hE
  refine lv_iconst (v := 0) hx hb dX9_manyIn_0 (by decide) ?_
  refine lv_istore_n (lv' := [(2, .int 0), (0, .ref (A 0)), (1, .int p1)]) hx hb dX9_manyIn_1 rfl hl (by decide) rfl (fun ls hl => ?_)
  refine lv_iconst (v := 0) hx hb dX9_manyIn_2 (by decide) ?_
  refine lv_istore_n (lv' := [(3, .int 0), (2, .int 0), (0, .ref (A 0)), (1, .int p1)]) hx hb dX9_manyIn_3 rfl hl (by decide) rfl (fun ls hl => ?_)
  obtain ⟨x3, hZ, hE⟩ := bd1_some hE
  have hX4_3 : ∀ (H : Heap) (locs : List Loc) (ls : Array Slot), xI D (va_A (wY A cI u) s.heap.size) s.heap (wY A cI u) H locs → lv_has ls 4 [(2, .int x3)] → W p l e (rmOf 1 22) s m ([.ref (A 0), .int p1] : List Value).toArray below meth c H locs 0 0 (xQ D (tyL cI cZ cD) below ([.ref (A 0), .int p1] : List Value).toArray s (wY A cI u) (some (.int r)) (wY A cI u)) (F0 m 33 ls []) := by
    intro H locs ls hI hl
    clear hZ
    refine lv_iload_n hx hb dX9_manyIn_33 rfl (lv_at hl 0 rfl) ?_
    obtain rfl := sm1 hE
    exact xr_i hx hb hr hlk hG hI dX9_manyIn_34
  replace hE := hZ
  clear hZ
  have hL4 : ∀ (n4 : Nat) (x1 : Int32) (x2 : Int32) (H : Heap) (locs : List Loc) (ls : Array Slot), X9_manyIn_L4 p1 u n4 x1 x2 = some x3 → xI D (va_A (wY A cI u) s.heap.size) s.heap (wY A cI u) H locs → lv_has ls 4 [(0, .ref (A 0)), (1, .int p1), (2, .int x1), (3, .int x2)] → W p l e (rmOf 1 22) s m ([.ref (A 0), .int p1] : List Value).toArray below meth c H locs 0 0 (xQ D (tyL cI cZ cD) below ([.ref (A 0), .int p1] : List Value).toArray s (wY A cI u) (some (.int r)) (wY A cI u)) (F0 m 4 ls []) := by
    intro n4
    induction n4 with
    | zero =>
      intro x1 x2 H locs ls hE
      exact absurd hE (by simp [X9_manyIn_L4])
    | succ n4 ih4 =>
      intro x1 x2 H locs ls hE hI hl
      rw [X9_manyIn_L4] at hE
      refine lv_iload_n hx hb dX9_manyIn_4 rfl (lv_at hl 3 rfl) ?_
      refine lv_bipush (v := 16) hx hb dX9_manyIn_5 (by decide) ?_
      refine lv_icmp_ge (tgt := 33) hx hb dX9_manyIn_7 (by decide) (fun c7 => ?_) (fun c7 => ?_)
      · rw [if_pos c7] at hE
        obtain rfl := sm1 hE
        exact hX4_3 _ _ _ hI (lv_sub hl [2] rfl)
      · rw [if_neg c7] at hE
        refine lv_iload_n hx hb dX9_manyIn_10 rfl (lv_at hl 2 rfl) ?_
        refine lv_aload_n hx hb dX9_manyIn_11 rfl (lv_at hl 0 rfl) ?_
        refine lv_iload_n hx hb dX9_manyIn_12 rfl (lv_at hl 1 rfl) ?_
        refine lv_iload_n hx hb dX9_manyIn_13 rfl (lv_at hl 3 rfl) ?_
        obtain ⟨r5, hc, hE⟩ := bd1_some hE
        refine xc_V1 (rest := [.int x1]) (c_X9_isIn hc) mw_X9_isIn km_X9_72 hx hb hml hown hG hI xA_of (wG_atE (by omega) eY_0) rfl rfl ⟨Nat.le_of_ble_eq_true rfl, Nat.le_of_ble_eq_true rfl⟩ rfl hl.1 rfl (Nat.le_of_ble_eq_true rfl) dX9_manyIn_14 (fun H locs hI => ?_)
        obtain ⟨x6, hZ, hE⟩ := bd1_some hE
        have hJ25_6 : ∀ (H : Heap) (locs : List Loc) (ls : Array Slot), xI D (va_A (wY A cI u) s.heap.size) s.heap (wY A cI u) H locs → lv_has ls 4 [(0, .ref (A 0)), (1, .int p1), (3, .int x2)] → W p l e (rmOf 1 22) s m ([.ref (A 0), .int p1] : List Value).toArray below meth c H locs 0 0 (xQ D (tyL cI cZ cD) below ([.ref (A 0), .int p1] : List Value).toArray s (wY A cI u) (some (.int r)) (wY A cI u)) (F0 m 25 ls [.int x6, .int x1]) := by
          intro H locs ls hI hl
          clear hZ
          refine lv_iadd hx hb dX9_manyIn_25 ?_
          refine lv_istore_n (lv' := [(2, .int (x1 + x6)), (0, .ref (A 0)), (1, .int p1), (3, .int x2)]) hx hb dX9_manyIn_26 rfl hl (by decide) rfl (fun ls hl => ?_)
          refine lv_iinc (v := x2 + 1) (lv' := [(3, .int (x2 + 1)), (2, .int (x1 + x6)), (0, .ref (A 0)), (1, .int p1)]) hx hb dX9_manyIn_27 hl (k := 3) rfl rfl (by decide) rfl (fun ls hl => ?_)
          refine lv_goto (tgt := 4) hx hb dX9_manyIn_30 (by decide) ?_
          exact ih4 _ _ _ _ _ hE hI (lv_sub hl [2, 3, 1, 0] rfl)
        replace hE := hZ
        clear hZ
        refine lv_if_eq (tgt := 24) hx hb dX9_manyIn_17 (by decide) (fun c17 => ?_) (fun c17 => ?_)
        · rw [if_pos c17] at hE
          refine lv_iconst (v := 0) hx hb dX9_manyIn_24 (by decide) ?_
          obtain rfl := sm1 hE
          exact hJ25_6 _ _ _ hI (lv_sub hl [0, 1, 3] rfl)
        · rw [if_neg c17] at hE
          refine lv_iconst (v := 1) hx hb dX9_manyIn_20 (by decide) ?_
          refine lv_goto (tgt := 25) hx hb dX9_manyIn_21 (by decide) ?_
          obtain rfl := sm1 hE
          exact hJ25_6 _ _ _ hI (lv_sub hl [0, 1, 3] rfl)
  exact hL4 _ _ _ _ _ _ hE hI (lv_sub hl [2, 3, 1, 0] rfl)
def X9_belowOf_L19 (p1 : Int32) (u : Mem) (x1 : Int32) : Nat → Int32 → Int32 → Option (Int32)
  | 0, _, _ => none
  | n19 + 1, x5, x6 =>
    (if 16 ≤ x6 then some x5 else (X9_isIn u p1 x6 : Option Bool).bind fun (r9 : Bool) => ((if (b2i r9) = 0 then some 0 else (X9_parentOf u p1 x6 : Option Int32).bind fun (r12 : Int32) => (if ((x1 >>> (r12 &&& 31)) &&& 1) = 1 then some (1 <<< (x6 &&& 31)) else some 0)) : Option Int32).bind fun (x10 : Int32) => X9_belowOf_L19 p1 u x1 n19 (x5 ||| x10) (x6 + 1))
def X9_belowOf_L7 (p1 : Int32) (u : Mem) : Nat → Int32 → Int32 → Option (Int32)
  | 0, _, _ => none
  | n7 + 1, x1, x2 =>
    (if x1 = x2 then some x1 else (X9_belowOf_L19 p1 u x1 fu x1 1 : Option Int32).bind fun (x7 : Int32) => X9_belowOf_L7 p1 u n7 x7 x1)
def X9_belowOf (u : Mem) (p1 : Int32) (p2 : Int32) : Option (Int32) :=
  (X9_belowOf_L7 p1 u fu (1 <<< (p2 &&& 31)) 0 : Option Int32).bind fun (x3 : Int32) => some x3
set_option maxHeartbeats 4000000 in
set_option maxRecDepth 100000 in
theorem c_X9_belowOf {l : Launch} {D : va_G} {A : Nat → Nat} {cI cZ cD : ClassId} {u : Mem} {p1 : Int32} {p2 : Int32} {r : Int32}  (hE : X9_belowOf u p1 p2 = some (r)) : Ct l yX9_belowOf cX9_belowOf 6 (some .int) (rmOf 1 22) D (tyL cI cZ cD) [.ref (A 0), .int p1, .int p2] (wY A cI u) (some (.int r)) (wY A cI u) := by
  refine Ct.ofW (by decide +kernel) (fun p e s m below meth c hC hI => ?_)
  obtain ⟨hx, hb, hml, hown, hr, hlk, hG⟩ := hC
  have hown : s.vm.findClass RX9 = some m.cls := hown
  have hl := lv_entry ([.ref (A 0), .int p1, .int p2] : List Value) (n := 6) (Nat.le_of_ble_eq_true rfl)
  rw [lg_entry_eq]
  generalize (lg_sl ([.ref (A 0), .int p1, .int p2] : List Value) ++ List.replicate (6 - (lg_sl ([.ref (A 0), .int p1, .int p2] : List Value)).length) Slot.unset).toArray = ls at hl ⊢
  have hl : lv_has ls 6 [(0, .ref (A 0)), (1, .int p1), (2, .int p2)] := hl
  unfold X9_belowOf at hE
  refine lv_iconst (v := 1) hx hb dX9_belowOf_0 (by decide) ?_
  refine lv_iload_n hx hb dX9_belowOf_1 rfl (lv_at hl 2 rfl) ?_
  refine lv_ishl hx hb dX9_belowOf_2 ?_
  refine lv_istore_n (lv' := [(3, .int (1 <<< (p2 &&& 31))), (0, .ref (A 0)), (1, .int p1), (2, .int p2)]) hx hb dX9_belowOf_3 rfl hl (by decide) rfl (fun ls hl => ?_)
  refine lv_iconst (v := 0) hx hb dX9_belowOf_4 (by decide) ?_
  refine lv_istore (lv' := [(4, .int 0), (3, .int (1 <<< (p2 &&& 31))), (0, .ref (A 0)), (1, .int p1), (2, .int p2)]) hx hb dX9_belowOf_5 hl (by decide) rfl (fun ls hl => ?_)
  obtain ⟨x3, hZ, hE⟩ := bd1_some hE
  have hX7_3 : ∀ (H : Heap) (locs : List Loc) (ls : Array Slot), xI D (va_A (wY A cI u) s.heap.size) s.heap (wY A cI u) H locs → lv_has ls 6 [(3, .int x3)] → W p l e (rmOf 1 22) s m ([.ref (A 0), .int p1, .int p2] : List Value).toArray below meth c H locs 0 0 (xQ D (tyL cI cZ cD) below ([.ref (A 0), .int p1, .int p2] : List Value).toArray s (wY A cI u) (some (.int r)) (wY A cI u)) (F0 m 72 ls []) := by
    intro H locs ls hI hl
    clear hZ
    refine lv_iload_n hx hb dX9_belowOf_72 rfl (lv_at hl 0 rfl) ?_
    obtain rfl := sm1 hE
    exact xr_i hx hb hr hlk hG hI dX9_belowOf_73
  replace hE := hZ
  clear hZ
  have hL7 : ∀ (n7 : Nat) (x1 : Int32) (x2 : Int32) (H : Heap) (locs : List Loc) (ls : Array Slot), X9_belowOf_L7 p1 u n7 x1 x2 = some x3 → xI D (va_A (wY A cI u) s.heap.size) s.heap (wY A cI u) H locs → lv_has ls 6 [(0, .ref (A 0)), (1, .int p1), (3, .int x1), (4, .int x2)] → W p l e (rmOf 1 22) s m ([.ref (A 0), .int p1, .int p2] : List Value).toArray below meth c H locs 0 0 (xQ D (tyL cI cZ cD) below ([.ref (A 0), .int p1, .int p2] : List Value).toArray s (wY A cI u) (some (.int r)) (wY A cI u)) (F0 m 7 ls []) := by
    intro n7
    induction n7 with
    | zero =>
      intro x1 x2 H locs ls hE
      exact absurd hE (by simp [X9_belowOf_L7])
    | succ n7 ih7 =>
      intro x1 x2 H locs ls hE hI hl
      rw [X9_belowOf_L7] at hE
      refine lv_iload_n hx hb dX9_belowOf_7 rfl (lv_at hl 2 rfl) ?_
      refine lv_iload hx hb dX9_belowOf_8 (lv_at hl 3 rfl) ?_
      refine lv_icmp_eq (tgt := 72) hx hb dX9_belowOf_10 (by decide) (fun c10 => ?_) (fun c10 => ?_)
      · rw [if_pos c10] at hE
        obtain rfl := sm1 hE
        exact hX7_3 _ _ _ hI (lv_sub hl [2] rfl)
      · rw [if_neg c10] at hE
        refine lv_iload_n hx hb dX9_belowOf_13 rfl (lv_at hl 2 rfl) ?_
        refine lv_istore (lv' := [(4, .int x1), (0, .ref (A 0)), (1, .int p1), (3, .int x1)]) hx hb dX9_belowOf_14 hl (by decide) rfl (fun ls hl => ?_)
        refine lv_iconst (v := 1) hx hb dX9_belowOf_16 (by decide) ?_
        refine lv_istore (lv' := [(5, .int 1), (4, .int x1), (0, .ref (A 0)), (1, .int p1), (3, .int x1)]) hx hb dX9_belowOf_17 hl (by decide) rfl (fun ls hl => ?_)
        obtain ⟨x7, hZ, hE⟩ := bd1_some hE
        have hX19_7 : ∀ (H : Heap) (locs : List Loc) (ls : Array Slot), xI D (va_A (wY A cI u) s.heap.size) s.heap (wY A cI u) H locs → lv_has ls 6 [(0, .ref (A 0)), (1, .int p1), (3, .int x7), (4, .int x1)] → W p l e (rmOf 1 22) s m ([.ref (A 0), .int p1, .int p2] : List Value).toArray below meth c H locs 0 0 (xQ D (tyL cI cZ cD) below ([.ref (A 0), .int p1, .int p2] : List Value).toArray s (wY A cI u) (some (.int r)) (wY A cI u)) (F0 m 69 ls []) := by
          intro H locs ls hI hl
          clear hZ
          refine lv_goto (tgt := 7) hx hb dX9_belowOf_69 (by decide) ?_
          exact ih7 _ _ _ _ _ hE hI (lv_sub hl [0, 1, 2, 3] rfl)
        replace hE := hZ
        clear hZ
        have hL19 : ∀ (n19 : Nat) (x5 : Int32) (x6 : Int32) (H : Heap) (locs : List Loc) (ls : Array Slot), X9_belowOf_L19 p1 u x1 n19 x5 x6 = some x7 → xI D (va_A (wY A cI u) s.heap.size) s.heap (wY A cI u) H locs → lv_has ls 6 [(0, .ref (A 0)), (1, .int p1), (3, .int x5), (4, .int x1), (5, .int x6)] → W p l e (rmOf 1 22) s m ([.ref (A 0), .int p1, .int p2] : List Value).toArray below meth c H locs 0 0 (xQ D (tyL cI cZ cD) below ([.ref (A 0), .int p1, .int p2] : List Value).toArray s (wY A cI u) (some (.int r)) (wY A cI u)) (F0 m 19 ls []) := by
          intro n19
          induction n19 with
          | zero =>
            intro x5 x6 H locs ls hE
            exact absurd hE (by simp [X9_belowOf_L19])
          | succ n19 ih19 =>
            intro x5 x6 H locs ls hE hI hl
            rw [X9_belowOf_L19] at hE
            refine lv_iload hx hb dX9_belowOf_19 (lv_at hl 4 rfl) ?_
            refine lv_bipush (v := 16) hx hb dX9_belowOf_21 (by decide) ?_
            refine lv_icmp_ge (tgt := 69) hx hb dX9_belowOf_23 (by decide) (fun c23 => ?_) (fun c23 => ?_)
            · rw [if_pos c23] at hE
              obtain rfl := sm1 hE
              exact hX19_7 _ _ _ hI (lv_sub hl [0, 1, 2, 3] rfl)
            · rw [if_neg c23] at hE
              refine lv_iload_n hx hb dX9_belowOf_26 rfl (lv_at hl 2 rfl) ?_
              refine lv_aload_n hx hb dX9_belowOf_27 rfl (lv_at hl 0 rfl) ?_
              refine lv_iload_n hx hb dX9_belowOf_28 rfl (lv_at hl 1 rfl) ?_
              refine lv_iload hx hb dX9_belowOf_29 (lv_at hl 4 rfl) ?_
              obtain ⟨r9, hc, hE⟩ := bd1_some hE
              refine xc_V1 (rest := [.int x5]) (c_X9_isIn hc) mw_X9_isIn km_X9_72 hx hb hml hown hG hI xA_of (wG_atE (by omega) eY_0) rfl rfl ⟨Nat.le_of_ble_eq_true rfl, Nat.le_of_ble_eq_true rfl⟩ rfl hl.1 rfl (Nat.le_of_ble_eq_true rfl) dX9_belowOf_31 (fun H locs hI => ?_)
              obtain ⟨x10, hZ, hE⟩ := bd1_some hE
              have hJ61_10 : ∀ (H : Heap) (locs : List Loc) (ls : Array Slot), xI D (va_A (wY A cI u) s.heap.size) s.heap (wY A cI u) H locs → lv_has ls 6 [(0, .ref (A 0)), (1, .int p1), (4, .int x1), (5, .int x6)] → W p l e (rmOf 1 22) s m ([.ref (A 0), .int p1, .int p2] : List Value).toArray below meth c H locs 0 0 (xQ D (tyL cI cZ cD) below ([.ref (A 0), .int p1, .int p2] : List Value).toArray s (wY A cI u) (some (.int r)) (wY A cI u)) (F0 m 61 ls [.int x10, .int x5]) := by
                intro H locs ls hI hl
                clear hZ
                refine lv_ior hx hb dX9_belowOf_61 ?_
                refine lv_istore_n (lv' := [(3, .int (x5 ||| x10)), (0, .ref (A 0)), (1, .int p1), (4, .int x1), (5, .int x6)]) hx hb dX9_belowOf_62 rfl hl (by decide) rfl (fun ls hl => ?_)
                refine lv_iinc (v := x6 + 1) (lv' := [(5, .int (x6 + 1)), (3, .int (x5 ||| x10)), (0, .ref (A 0)), (1, .int p1), (4, .int x1)]) hx hb dX9_belowOf_63 hl (k := 4) rfl rfl (by decide) rfl (fun ls hl => ?_)
                refine lv_goto (tgt := 19) hx hb dX9_belowOf_66 (by decide) ?_
                exact ih19 _ _ _ _ _ hE hI (lv_sub hl [2, 3, 1, 4, 0] rfl)
              replace hE := hZ
              clear hZ
              refine lv_if_eq (tgt := 60) hx hb dX9_belowOf_34 (by decide) (fun c34 => ?_) (fun c34 => ?_)
              · rw [if_pos c34] at hE
                refine lv_iconst (v := 0) hx hb dX9_belowOf_60 (by decide) ?_
                obtain rfl := sm1 hE
                exact hJ61_10 _ _ _ hI (lv_sub hl [0, 1, 3, 4] rfl)
              · rw [if_neg c34] at hE
                refine lv_iload hx hb dX9_belowOf_37 (lv_at hl 3 rfl) ?_
                refine lv_aload_n hx hb dX9_belowOf_39 rfl (lv_at hl 0 rfl) ?_
                refine lv_iload_n hx hb dX9_belowOf_40 rfl (lv_at hl 1 rfl) ?_
                refine lv_iload hx hb dX9_belowOf_41 (lv_at hl 4 rfl) ?_
                obtain ⟨r12, hc, hE⟩ := bd1_some hE
                refine xc_V1 (rest := [.int x1, .int x5]) (c_X9_parentOf hc) mw_X9_parentOf km_X9_76 hx hb hml hown hG hI xA_of (wG_atE (by omega) eY_0) rfl rfl ⟨Nat.le_of_ble_eq_true rfl, Nat.le_of_ble_eq_true rfl⟩ rfl hl.1 rfl (Nat.le_of_ble_eq_true rfl) dX9_belowOf_43 (fun H locs hI => ?_)
                refine lv_ishr hx hb dX9_belowOf_46 ?_
                refine lv_iconst (v := 1) hx hb dX9_belowOf_47 (by decide) ?_
                refine lv_iand hx hb dX9_belowOf_48 ?_
                refine lv_iconst (v := 1) hx hb dX9_belowOf_49 (by decide) ?_
                refine lv_icmp_ne (tgt := 60) hx hb dX9_belowOf_50 (by decide) (fun c50 => ?_) (fun c50 => ?_)
                · rw [if_neg c50] at hE
                  refine lv_iconst (v := 0) hx hb dX9_belowOf_60 (by decide) ?_
                  obtain rfl := sm1 hE
                  exact hJ61_10 _ _ _ hI (lv_sub hl [0, 1, 3, 4] rfl)
                · rw [if_pos c50] at hE
                  refine lv_iconst (v := 1) hx hb dX9_belowOf_53 (by decide) ?_
                  refine lv_iload hx hb dX9_belowOf_54 (lv_at hl 4 rfl) ?_
                  refine lv_ishl hx hb dX9_belowOf_56 ?_
                  refine lv_goto (tgt := 61) hx hb dX9_belowOf_57 (by decide) ?_
                  obtain rfl := sm1 hE
                  exact hJ61_10 _ _ _ hI (lv_sub hl [0, 1, 3, 4] rfl)
        exact hL19 _ _ _ _ _ _ hE hI (lv_sub hl [2, 3, 4, 1, 0] rfl)
  exact hL7 _ _ _ _ _ _ hE hI (lv_sub hl [2, 3, 1, 0] rfl)
def X9_push_L3 (p1 : Int32) (p2 : Int32) (p3 : Int32) (p4 : Int32) : Nat → Int32 → Mem → Option (Mem)
  | 0, _, _ => none
  | n3 + 1, x1, mu2 =>
    (if 16 ≤ x1 then some mu2 else (rd 258 (mu2 1) (((64 * p1) + 16) + x1)).bind fun v5 => (X9_parentOf mu2 p1 x1 : Option Int32).bind fun (r6 : Int32) => ((if r6 = p2 then (X9_placeOf mu2 p1 x1 : Option Int32).bind fun (r10 : Int32) => (if r10 < p3 then some 0 else some p4) else some 0) : Option Int32).bind fun (x7 : Int32) => (stI 258 mu2 1 (((64 * p1) + 16) + x1) (v5 + x7)).bind fun mu9 => X9_push_L3 p1 p2 p3 p4 n3 (x1 + 1) mu9)
def X9_push (u : Mem) (p1 : Int32) (p2 : Int32) (p3 : Int32) (p4 : Int32) : Option (Mem) :=
  (X9_push_L3 p1 p2 p3 p4 fu 1 u : Option Mem).bind fun (mu3 : Mem) => some mu3
set_option maxHeartbeats 4000000 in
set_option maxRecDepth 100000 in
theorem c_X9_push {l : Launch} {D : va_G} {A : Nat → Nat} {cI cZ cD : ClassId} {u u1 : Mem} {p1 : Int32} {p2 : Int32} {p3 : Int32} {p4 : Int32}  (hE : X9_push u p1 p2 p3 p4 = some (u1)) : Ct l yX9_push cX9_push 6 none (rmOf 1 22) D (tyL cI cZ cD) [.ref (A 0), .int p1, .int p2, .int p3, .int p4] (wY A cI u) none (wY A cI u1) := by
  refine Ct.ofW (by decide +kernel) (fun p e s m below meth c hC hI => ?_)
  obtain ⟨hx, hb, hml, hown, hr, hlk, hG⟩ := hC
  have hown : s.vm.findClass RX9 = some m.cls := hown
  have hl := lv_entry ([.ref (A 0), .int p1, .int p2, .int p3, .int p4] : List Value) (n := 6) (Nat.le_of_ble_eq_true rfl)
  rw [lg_entry_eq]
  generalize (lg_sl ([.ref (A 0), .int p1, .int p2, .int p3, .int p4] : List Value) ++ List.replicate (6 - (lg_sl ([.ref (A 0), .int p1, .int p2, .int p3, .int p4] : List Value)).length) Slot.unset).toArray = ls at hl ⊢
  have hl : lv_has ls 6 [(0, .ref (A 0)), (1, .int p1), (2, .int p2), (3, .int p3), (4, .int p4)] := hl
  unfold X9_push at hE
  refine lv_iconst (v := 1) hx hb dX9_push_0 (by decide) ?_
  refine lv_istore (lv' := [(5, .int 1), (0, .ref (A 0)), (1, .int p1), (2, .int p2), (3, .int p3), (4, .int p4)]) hx hb dX9_push_1 hl (by decide) rfl (fun ls hl => ?_)
  obtain ⟨mu3, hZ, hE⟩ := bd1_some hE
  have hX3_3 : ∀ (H : Heap) (locs : List Loc) (ls : Array Slot), xI D (va_A (wY A cI u) s.heap.size) s.heap (wY A cI mu3) H locs → lv_has ls 6 [] → W p l e (rmOf 1 22) s m ([.ref (A 0), .int p1, .int p2, .int p3, .int p4] : List Value).toArray below meth c H locs 0 0 (xQ D (tyL cI cZ cD) below ([.ref (A 0), .int p1, .int p2, .int p3, .int p4] : List Value).toArray s (wY A cI u) none (wY A cI u1)) (F0 m 62 ls []) := by
    intro H locs ls hI hl
    clear hZ
    obtain rfl := sm1 hE
    exact xr_v hx hb hr hlk hG hI dX9_push_62
  replace hE := hZ
  clear hZ
  have hL3 : ∀ (n3 : Nat) (x1 : Int32) (mu2 : Mem) (H : Heap) (locs : List Loc) (ls : Array Slot), X9_push_L3 p1 p2 p3 p4 n3 x1 mu2 = some mu3 → xI D (va_A (wY A cI u) s.heap.size) s.heap (wY A cI mu2) H locs → lv_has ls 6 [(0, .ref (A 0)), (1, .int p1), (2, .int p2), (3, .int p3), (4, .int p4), (5, .int x1)] → W p l e (rmOf 1 22) s m ([.ref (A 0), .int p1, .int p2, .int p3, .int p4] : List Value).toArray below meth c H locs 0 0 (xQ D (tyL cI cZ cD) below ([.ref (A 0), .int p1, .int p2, .int p3, .int p4] : List Value).toArray s (wY A cI u) none (wY A cI u1)) (F0 m 3 ls []) := by
    intro n3
    induction n3 with
    | zero =>
      intro x1 mu2 H locs ls hE
      exact absurd hE (by simp [X9_push_L3])
    | succ n3 ih3 =>
      intro x1 mu2 H locs ls hE hI hl
      rw [X9_push_L3] at hE
      refine lv_iload hx hb dX9_push_3 (lv_at hl 5 rfl) ?_
      refine lv_bipush (v := 16) hx hb dX9_push_5 (by decide) ?_
      refine lv_icmp_ge (tgt := 62) hx hb dX9_push_7 (by decide) (fun c7 => ?_) (fun c7 => ?_)
      · rw [if_pos c7] at hE
        obtain rfl := sm1 hE
        exact hX3_3 _ _ _ hI (lv_sub hl [] rfl)
      · rw [if_neg c7] at hE
        refine lv_aload_n hx hb dX9_push_10 rfl (lv_at hl 0 rfl) ?_
        refine xg_get (C := RX9) (T := TX9) (M := 22) hx hb hown hG hI (by omega) eY_0 rfl inX9 0 (by decide) kf_X9_7 rfl dX9_push_11 ?_
        refine lv_bipush (v := 64) hx hb dX9_push_14 (by decide) ?_
        refine lv_iload_n hx hb dX9_push_16 rfl (lv_at hl 1 rfl) ?_
        refine lv_imul hx hb dX9_push_17 ?_
        refine lv_bipush (v := 16) hx hb dX9_push_18 (by decide) ?_
        refine lv_iadd hx hb dX9_push_20 ?_
        refine lv_iload hx hb dX9_push_21 (lv_at hl 5 rfl) ?_
        refine lv_iadd hx hb dX9_push_23 ?_
        refine lv_dup2_11 hx hb dX9_push_24 rfl rfl ?_
        obtain ⟨v5, hv, hE⟩ := bd1_some hE
        refine xg_iald 0 hx hb hG hI (by omega) eY_1 rfl hv dX9_push_25 ?_
        refine lv_aload_n hx hb dX9_push_26 rfl (lv_at hl 0 rfl) ?_
        refine lv_iload_n hx hb dX9_push_27 rfl (lv_at hl 1 rfl) ?_
        refine lv_iload hx hb dX9_push_28 (lv_at hl 5 rfl) ?_
        obtain ⟨r6, hc, hE⟩ := bd1_some hE
        refine xc_V1 (rest := [.int v5, .int (((64 * p1) + 16) + x1), .ref (A 1)]) (c_X9_parentOf hc) mw_X9_parentOf km_X9_76 hx hb hml hown hG hI xA_of (wG_atE (by omega) eY_0) rfl rfl ⟨Nat.le_of_ble_eq_true rfl, Nat.le_of_ble_eq_true rfl⟩ rfl hl.1 rfl (Nat.le_of_ble_eq_true rfl) dX9_push_30 (fun H locs hI => ?_)
        refine lv_iload_n hx hb dX9_push_33 rfl (lv_at hl 2 rfl) ?_
        obtain ⟨x7, hZ, hE⟩ := bd1_some hE
        have hJ54_7 : ∀ (H : Heap) (locs : List Loc) (ls : Array Slot), xI D (va_A (wY A cI u) s.heap.size) s.heap (wY A cI mu2) H locs → lv_has ls 6 [(0, .ref (A 0)), (1, .int p1), (2, .int p2), (3, .int p3), (4, .int p4), (5, .int x1)] → W p l e (rmOf 1 22) s m ([.ref (A 0), .int p1, .int p2, .int p3, .int p4] : List Value).toArray below meth c H locs 0 0 (xQ D (tyL cI cZ cD) below ([.ref (A 0), .int p1, .int p2, .int p3, .int p4] : List Value).toArray s (wY A cI u) none (wY A cI u1)) (F0 m 54 ls [.int x7, .int v5, .int (((64 * p1) + 16) + x1), .ref (A 1)]) := by
          intro H locs ls hI hl
          clear hZ
          refine lv_iadd hx hb dX9_push_54 ?_
          obtain ⟨mu9, hv, hE⟩ := bd1_some hE
          refine xg_iast 0 hx hb hG hI (by omega) eY_1 rfl hv dX9_push_55 (fun H locs hI => ?_)
          refine lv_iinc (v := x1 + 1) (lv' := [(5, .int (x1 + 1)), (0, .ref (A 0)), (1, .int p1), (2, .int p2), (3, .int p3), (4, .int p4)]) hx hb dX9_push_56 hl (k := 5) rfl rfl (by decide) rfl (fun ls hl => ?_)
          refine lv_goto (tgt := 3) hx hb dX9_push_59 (by decide) ?_
          exact ih3 _ _ _ _ _ hE hI (lv_sub hl [1, 2, 3, 4, 5, 0] rfl)
        replace hE := hZ
        clear hZ
        refine lv_icmp_ne (tgt := 53) hx hb dX9_push_34 (by decide) (fun c34 => ?_) (fun c34 => ?_)
        · rw [if_neg c34] at hE
          refine lv_iconst (v := 0) hx hb dX9_push_53 (by decide) ?_
          obtain rfl := sm1 hE
          exact hJ54_7 _ _ _ hI (lv_sub hl [0, 1, 2, 3, 4, 5] rfl)
        · rw [if_pos c34] at hE
          refine lv_aload_n hx hb dX9_push_37 rfl (lv_at hl 0 rfl) ?_
          refine lv_iload_n hx hb dX9_push_38 rfl (lv_at hl 1 rfl) ?_
          refine lv_iload hx hb dX9_push_39 (lv_at hl 5 rfl) ?_
          obtain ⟨r10, hc, hE⟩ := bd1_some hE
          refine xc_V1 (rest := [.int v5, .int (((64 * p1) + 16) + x1), .ref (A 1)]) (c_X9_placeOf hc) mw_X9_placeOf km_X9_80 hx hb hml hown hG hI xA_of (wG_atE (by omega) eY_0) rfl rfl ⟨Nat.le_of_ble_eq_true rfl, Nat.le_of_ble_eq_true rfl⟩ rfl hl.1 rfl (Nat.le_of_ble_eq_true rfl) dX9_push_41 (fun H locs hI => ?_)
          refine lv_iload_n hx hb dX9_push_44 rfl (lv_at hl 3 rfl) ?_
          refine lv_icmp_lt (tgt := 53) hx hb dX9_push_45 (by decide) (fun c45 => ?_) (fun c45 => ?_)
          · rw [if_pos c45] at hE
            refine lv_iconst (v := 0) hx hb dX9_push_53 (by decide) ?_
            obtain rfl := sm1 hE
            exact hJ54_7 _ _ _ hI (lv_sub hl [0, 1, 2, 3, 4, 5] rfl)
          · rw [if_neg c45] at hE
            refine lv_iload hx hb dX9_push_48 (lv_at hl 4 rfl) ?_
            refine lv_goto (tgt := 54) hx hb dX9_push_50 (by decide) ?_
            obtain rfl := sm1 hE
            exact hJ54_7 _ _ _ hI (lv_sub hl [0, 1, 2, 3, 4, 5] rfl)
  exact hL3 _ _ _ _ _ _ hE hI (lv_sub hl [1, 2, 3, 4, 5, 0] rfl)
def X9_hang (u : Mem) (p1 : Int32) (p2 : Int32) (p3 : Int32) (p4 : Int32) : Option (Mem) :=
  (X9_push u p1 p3 p4 1 : Option Mem).bind fun (mu1 : Mem) => (stI 258 mu1 1 ((64 * p1) + p2) p3).bind fun mu2 => (stI 258 mu2 1 (((64 * p1) + 16) + p2) p4).bind fun mu3 => some mu3
set_option maxHeartbeats 4000000 in
set_option maxRecDepth 100000 in
theorem c_X9_hang {l : Launch} {D : va_G} {A : Nat → Nat} {cI cZ cD : ClassId} {u u1 : Mem} {p1 : Int32} {p2 : Int32} {p3 : Int32} {p4 : Int32}  (hE : X9_hang u p1 p2 p3 p4 = some (u1)) : Ct l yX9_hang cX9_hang 5 none (rmOf 2 47) D (tyL cI cZ cD) [.ref (A 0), .int p1, .int p2, .int p3, .int p4] (wY A cI u) none (wY A cI u1) := by
  refine Ct.ofW (by decide +kernel) (fun p e s m below meth c hC hI => ?_)
  obtain ⟨hx, hb, hml, hown, hr, hlk, hG⟩ := hC
  have hown : s.vm.findClass RX9 = some m.cls := hown
  have hl := lv_entry ([.ref (A 0), .int p1, .int p2, .int p3, .int p4] : List Value) (n := 5) (Nat.le_of_ble_eq_true rfl)
  rw [lg_entry_eq]
  generalize (lg_sl ([.ref (A 0), .int p1, .int p2, .int p3, .int p4] : List Value) ++ List.replicate (5 - (lg_sl ([.ref (A 0), .int p1, .int p2, .int p3, .int p4] : List Value)).length) Slot.unset).toArray = ls at hl ⊢
  have hl : lv_has ls 5 [(0, .ref (A 0)), (1, .int p1), (2, .int p2), (3, .int p3), (4, .int p4)] := hl
  unfold X9_hang at hE
  refine lv_aload_n hx hb dX9_hang_0 rfl (lv_at hl 0 rfl) ?_
  refine lv_iload_n hx hb dX9_hang_1 rfl (lv_at hl 1 rfl) ?_
  refine lv_iload_n hx hb dX9_hang_2 rfl (lv_at hl 3 rfl) ?_
  refine lv_iload hx hb dX9_hang_3 (lv_at hl 4 rfl) ?_
  refine lv_iconst (v := 1) hx hb dX9_hang_5 (by decide) ?_
  obtain ⟨mu1, hc, hE⟩ := bd1_some hE
  refine xc_V0 (rest := []) (c_X9_push hc) mw_X9_push km_X9_83 hx hb hml hown hG hI xA_of (wG_atE (by omega) eY_0) rfl rfl ⟨Nat.le_of_ble_eq_true rfl, Nat.le_of_ble_eq_true rfl⟩ rfl hl.1 rfl (Nat.le_of_ble_eq_true rfl) dX9_hang_6 (fun H locs hI => ?_)
  refine lv_aload_n hx hb dX9_hang_9 rfl (lv_at hl 0 rfl) ?_
  refine xg_get (C := RX9) (T := TX9) (M := 22) hx hb hown hG hI (by omega) eY_0 rfl inX9 0 (by decide) kf_X9_7 rfl dX9_hang_10 ?_
  refine lv_bipush (v := 64) hx hb dX9_hang_13 (by decide) ?_
  refine lv_iload_n hx hb dX9_hang_15 rfl (lv_at hl 1 rfl) ?_
  refine lv_imul hx hb dX9_hang_16 ?_
  refine lv_iload_n hx hb dX9_hang_17 rfl (lv_at hl 2 rfl) ?_
  refine lv_iadd hx hb dX9_hang_18 ?_
  refine lv_iload_n hx hb dX9_hang_19 rfl (lv_at hl 3 rfl) ?_
  obtain ⟨mu2, hv, hE⟩ := bd1_some hE
  refine xg_iast 0 hx hb hG hI (by omega) eY_1 rfl hv dX9_hang_20 (fun H locs hI => ?_)
  refine lv_aload_n hx hb dX9_hang_21 rfl (lv_at hl 0 rfl) ?_
  refine xg_get (C := RX9) (T := TX9) (M := 22) hx hb hown hG hI (by omega) eY_0 rfl inX9 0 (by decide) kf_X9_7 rfl dX9_hang_22 ?_
  refine lv_bipush (v := 64) hx hb dX9_hang_25 (by decide) ?_
  refine lv_iload_n hx hb dX9_hang_27 rfl (lv_at hl 1 rfl) ?_
  refine lv_imul hx hb dX9_hang_28 ?_
  refine lv_bipush (v := 16) hx hb dX9_hang_29 (by decide) ?_
  refine lv_iadd hx hb dX9_hang_31 ?_
  refine lv_iload_n hx hb dX9_hang_32 rfl (lv_at hl 2 rfl) ?_
  refine lv_iadd hx hb dX9_hang_33 ?_
  refine lv_iload hx hb dX9_hang_34 (lv_at hl 4 rfl) ?_
  obtain ⟨mu3, hv, hE⟩ := bd1_some hE
  refine xg_iast 0 hx hb hG hI (by omega) eY_1 rfl hv dX9_hang_36 (fun H locs hI => ?_)
  obtain rfl := sm1 hE
  exact xr_v hx hb hr hlk hG hI dX9_hang_37
def X9_unhang (u : Mem) (p1 : Int32) (p2 : Int32) : Option (Mem) :=
  (X9_parentOf u p1 p2 : Option Int32).bind fun (r1 : Int32) => (X9_placeOf u p1 p2 : Option Int32).bind fun (r2 : Int32) => (stI 258 u 1 ((64 * p1) + p2) (-9)).bind fun mu3 => (X9_push mu3 p1 r1 r2 (-1) : Option Mem).bind fun (mu4 : Mem) => some mu4
set_option maxHeartbeats 4000000 in
set_option maxRecDepth 100000 in
theorem c_X9_unhang {l : Launch} {D : va_G} {A : Nat → Nat} {cI cZ cD : ClassId} {u u1 : Mem} {p1 : Int32} {p2 : Int32}  (hE : X9_unhang u p1 p2 = some (u1)) : Ct l yX9_unhang cX9_unhang 5 none (rmOf 2 47) D (tyL cI cZ cD) [.ref (A 0), .int p1, .int p2] (wY A cI u) none (wY A cI u1) := by
  refine Ct.ofW (by decide +kernel) (fun p e s m below meth c hC hI => ?_)
  obtain ⟨hx, hb, hml, hown, hr, hlk, hG⟩ := hC
  have hown : s.vm.findClass RX9 = some m.cls := hown
  have hl := lv_entry ([.ref (A 0), .int p1, .int p2] : List Value) (n := 5) (Nat.le_of_ble_eq_true rfl)
  rw [lg_entry_eq]
  generalize (lg_sl ([.ref (A 0), .int p1, .int p2] : List Value) ++ List.replicate (5 - (lg_sl ([.ref (A 0), .int p1, .int p2] : List Value)).length) Slot.unset).toArray = ls at hl ⊢
  have hl : lv_has ls 5 [(0, .ref (A 0)), (1, .int p1), (2, .int p2)] := hl
  unfold X9_unhang at hE
  refine lv_aload_n hx hb dX9_unhang_0 rfl (lv_at hl 0 rfl) ?_
  refine lv_iload_n hx hb dX9_unhang_1 rfl (lv_at hl 1 rfl) ?_
  refine lv_iload_n hx hb dX9_unhang_2 rfl (lv_at hl 2 rfl) ?_
  obtain ⟨r1, hc, hE⟩ := bd1_some hE
  refine xc_V1 (rest := []) (c_X9_parentOf hc) mw_X9_parentOf km_X9_76 hx hb hml hown hG hI xA_of (wG_atE (by omega) eY_0) rfl rfl ⟨Nat.le_of_ble_eq_true rfl, Nat.le_of_ble_eq_true rfl⟩ rfl hl.1 rfl (Nat.le_of_ble_eq_true rfl) dX9_unhang_3 (fun H locs hI => ?_)
  refine lv_istore_n (lv' := [(3, .int r1), (0, .ref (A 0)), (1, .int p1), (2, .int p2)]) hx hb dX9_unhang_6 rfl hl (by decide) rfl (fun ls hl => ?_)
  refine lv_aload_n hx hb dX9_unhang_7 rfl (lv_at hl 1 rfl) ?_
  refine lv_iload_n hx hb dX9_unhang_8 rfl (lv_at hl 2 rfl) ?_
  refine lv_iload_n hx hb dX9_unhang_9 rfl (lv_at hl 3 rfl) ?_
  obtain ⟨r2, hc, hE⟩ := bd1_some hE
  refine xc_V1 (rest := []) (c_X9_placeOf hc) mw_X9_placeOf km_X9_80 hx hb hml hown hG hI xA_of (wG_atE (by omega) eY_0) rfl rfl ⟨Nat.le_of_ble_eq_true rfl, Nat.le_of_ble_eq_true rfl⟩ rfl hl.1 rfl (Nat.le_of_ble_eq_true rfl) dX9_unhang_10 (fun H locs hI => ?_)
  refine lv_istore (lv' := [(4, .int r2), (3, .int r1), (0, .ref (A 0)), (1, .int p1), (2, .int p2)]) hx hb dX9_unhang_13 hl (by decide) rfl (fun ls hl => ?_)
  refine lv_aload_n hx hb dX9_unhang_15 rfl (lv_at hl 2 rfl) ?_
  refine xg_get (C := RX9) (T := TX9) (M := 22) hx hb hown hG hI (by omega) eY_0 rfl inX9 0 (by decide) kf_X9_7 rfl dX9_unhang_16 ?_
  refine lv_bipush (v := 64) hx hb dX9_unhang_19 (by decide) ?_
  refine lv_iload_n hx hb dX9_unhang_21 rfl (lv_at hl 3 rfl) ?_
  refine lv_imul hx hb dX9_unhang_22 ?_
  refine lv_iload_n hx hb dX9_unhang_23 rfl (lv_at hl 4 rfl) ?_
  refine lv_iadd hx hb dX9_unhang_24 ?_
  refine lv_bipush (v := (-9)) hx hb dX9_unhang_25 (by decide) ?_
  obtain ⟨mu3, hv, hE⟩ := bd1_some hE
  refine xg_iast 0 hx hb hG hI (by omega) eY_1 rfl hv dX9_unhang_27 (fun H locs hI => ?_)
  refine lv_aload_n hx hb dX9_unhang_28 rfl (lv_at hl 2 rfl) ?_
  refine lv_iload_n hx hb dX9_unhang_29 rfl (lv_at hl 3 rfl) ?_
  refine lv_iload_n hx hb dX9_unhang_30 rfl (lv_at hl 1 rfl) ?_
  refine lv_iload hx hb dX9_unhang_31 (lv_at hl 0 rfl) ?_
  refine lv_iconst (v := (-1)) hx hb dX9_unhang_33 (by decide) ?_
  obtain ⟨mu4, hc, hE⟩ := bd1_some hE
  refine xc_V0 (rest := []) (c_X9_push hc) mw_X9_push km_X9_83 hx hb hml hown hG hI xA_of (wG_atE (by omega) eY_0) rfl rfl ⟨Nat.le_of_ble_eq_true rfl, Nat.le_of_ble_eq_true rfl⟩ rfl hl.1 rfl (Nat.le_of_ble_eq_true rfl) dX9_unhang_34 (fun H locs hI => ?_)
  obtain rfl := sm1 hE
  exact xr_v hx hb hr hlk hG hI dX9_unhang_37
def X9_add (u : Mem) (p1 : Int32) (p2 : Int32) (p3 : Int32) (p4 : Int32) (p5 : Int32) : Option (Int32 × Mem) :=
  (X9_isOutline p1 : Option Bool).bind fun (r1 : Bool) => (if (b2i r1) = 0 then some ((-2), u) else (X9_isThere u p1 p2 : Option Bool).bind fun (r2 : Bool) => (if (b2i r2) = 0 then some ((-2), u) else (X9_childrenOf u p1 p2 : Option Int32).bind fun (r3 : Int32) => (X9_in p3 0 r3 : Option Bool).bind fun (r4 : Bool) => (if (b2i r4) = 0 then some ((-2), u) else (X9_isWord p4 : Option Bool).bind fun (r5 : Bool) => (if (b2i r5) = 0 then some ((-2), u) else (X9_isWord p5 : Option Bool).bind fun (r6 : Bool) => (if (b2i r6) = 0 then some ((-2), u) else (rd 258 (u 1) 257).bind fun v7 => (if v7 = 16 then some ((-4), u) else (rd 258 (u 1) 257).bind fun v8 => (stI 258 u 1 257 (v8 + 1)).bind fun mu9 => (X9_hang mu9 p1 v7 p2 p3 : Option Mem).bind fun (mu10 : Mem) => (stI 258 mu10 1 (((64 * p1) + 32) + v7) p4).bind fun mu11 => (stI 258 mu11 1 (((64 * p1) + 48) + v7) p5).bind fun mu12 => some (v7, mu12)))))))
set_option maxHeartbeats 4000000 in
set_option maxRecDepth 100000 in
theorem c_X9_add {l : Launch} {D : va_G} {A : Nat → Nat} {cI cZ cD : ClassId} {u u1 : Mem} {p1 : Int32} {p2 : Int32} {p3 : Int32} {p4 : Int32} {p5 : Int32} {r : Int32}  (hE : X9_add u p1 p2 p3 p4 p5 = some (r, u1)) : Ct l yX9_add cX9_add 7 (some .int) (rmOf 3 71) D (tyL cI cZ cD) [.ref (A 0), .int p1, .int p2, .int p3, .int p4, .int p5] (wY A cI u) (some (.int r)) (wY A cI u1) := by
  refine Ct.ofW (by decide +kernel) (fun p e s m below meth c hC hI => ?_)
  obtain ⟨hx, hb, hml, hown, hr, hlk, hG⟩ := hC
  have hown : s.vm.findClass RX9 = some m.cls := hown
  have hl := lv_entry ([.ref (A 0), .int p1, .int p2, .int p3, .int p4, .int p5] : List Value) (n := 7) (Nat.le_of_ble_eq_true rfl)
  rw [lg_entry_eq]
  generalize (lg_sl ([.ref (A 0), .int p1, .int p2, .int p3, .int p4, .int p5] : List Value) ++ List.replicate (7 - (lg_sl ([.ref (A 0), .int p1, .int p2, .int p3, .int p4, .int p5] : List Value)).length) Slot.unset).toArray = ls at hl ⊢
  have hl : lv_has ls 7 [(0, .ref (A 0)), (1, .int p1), (2, .int p2), (3, .int p3), (4, .int p4), (5, .int p5)] := hl
  unfold X9_add at hE
  refine lv_iload_n hx hb dX9_add_0 rfl (lv_at hl 1 rfl) ?_
  obtain ⟨r1, hc, hE⟩ := bd1_some hE
  refine xc_S1 (rest := []) (c_X9_isOutline hc) mw_X9_isOutline km_X9_87 hx hb hml hown hG hI xA_of ⟨Nat.le_of_ble_eq_true rfl, Nat.le_of_ble_eq_true rfl⟩ rfl hl.1 rfl (Nat.le_of_ble_eq_true rfl) dX9_add_1 (fun H locs hI => ?_)
  refine lv_if_eq (tgt := 46) hx hb dX9_add_4 (by decide) (fun c4 => ?_) (fun c4 => ?_)
  · rw [if_pos c4] at hE
    refine lv_bipush (v := (-2)) hx hb dX9_add_46 (by decide) ?_
    obtain ⟨rfl, rfl⟩ := sm2 hE
    exact xr_i hx hb hr hlk hG hI dX9_add_48
  · rw [if_neg c4] at hE
    refine lv_aload_n hx hb dX9_add_7 rfl (lv_at hl 0 rfl) ?_
    refine lv_iload_n hx hb dX9_add_8 rfl (lv_at hl 1 rfl) ?_
    refine lv_iload_n hx hb dX9_add_9 rfl (lv_at hl 2 rfl) ?_
    obtain ⟨r2, hc, hE⟩ := bd1_some hE
    refine xc_V1 (rest := []) (c_X9_isThere hc) mw_X9_isThere km_X9_90 hx hb hml hown hG hI xA_of (wG_atE (by omega) eY_0) rfl rfl ⟨Nat.le_of_ble_eq_true rfl, Nat.le_of_ble_eq_true rfl⟩ rfl hl.1 rfl (Nat.le_of_ble_eq_true rfl) dX9_add_10 (fun H locs hI => ?_)
    refine lv_if_eq (tgt := 46) hx hb dX9_add_13 (by decide) (fun c13 => ?_) (fun c13 => ?_)
    · rw [if_pos c13] at hE
      refine lv_bipush (v := (-2)) hx hb dX9_add_46 (by decide) ?_
      obtain ⟨rfl, rfl⟩ := sm2 hE
      exact xr_i hx hb hr hlk hG hI dX9_add_48
    · rw [if_neg c13] at hE
      refine lv_iload_n hx hb dX9_add_16 rfl (lv_at hl 3 rfl) ?_
      refine lv_iconst (v := 0) hx hb dX9_add_17 (by decide) ?_
      refine lv_aload_n hx hb dX9_add_18 rfl (lv_at hl 0 rfl) ?_
      refine lv_iload_n hx hb dX9_add_19 rfl (lv_at hl 1 rfl) ?_
      refine lv_iload_n hx hb dX9_add_20 rfl (lv_at hl 2 rfl) ?_
      obtain ⟨r3, hc, hE⟩ := bd1_some hE
      refine xc_V1 (rest := [.int 0, .int p3]) (c_X9_childrenOf hc) mw_X9_childrenOf km_X9_93 hx hb hml hown hG hI xA_of (wG_atE (by omega) eY_0) rfl rfl ⟨Nat.le_of_ble_eq_true rfl, Nat.le_of_ble_eq_true rfl⟩ rfl hl.1 rfl (Nat.le_of_ble_eq_true rfl) dX9_add_21 (fun H locs hI => ?_)
      obtain ⟨r4, hc, hE⟩ := bd1_some hE
      refine xc_S1 (rest := []) (c_X9_in hc) mw_X9_in km_X9_68 hx hb hml hown hG hI xA_of ⟨Nat.le_of_ble_eq_true rfl, Nat.le_of_ble_eq_true rfl⟩ rfl hl.1 rfl (Nat.le_of_ble_eq_true rfl) dX9_add_24 (fun H locs hI => ?_)
      refine lv_if_eq (tgt := 46) hx hb dX9_add_27 (by decide) (fun c27 => ?_) (fun c27 => ?_)
      · rw [if_pos c27] at hE
        refine lv_bipush (v := (-2)) hx hb dX9_add_46 (by decide) ?_
        obtain ⟨rfl, rfl⟩ := sm2 hE
        exact xr_i hx hb hr hlk hG hI dX9_add_48
      · rw [if_neg c27] at hE
        refine lv_iload hx hb dX9_add_30 (lv_at hl 4 rfl) ?_
        obtain ⟨r5, hc, hE⟩ := bd1_some hE
        refine xc_S1 (rest := []) (c_X9_isWord hc) mw_X9_isWord km_X9_96 hx hb hml hown hG hI xA_of ⟨Nat.le_of_ble_eq_true rfl, Nat.le_of_ble_eq_true rfl⟩ rfl hl.1 rfl (Nat.le_of_ble_eq_true rfl) dX9_add_32 (fun H locs hI => ?_)
        refine lv_if_eq (tgt := 46) hx hb dX9_add_35 (by decide) (fun c35 => ?_) (fun c35 => ?_)
        · rw [if_pos c35] at hE
          refine lv_bipush (v := (-2)) hx hb dX9_add_46 (by decide) ?_
          obtain ⟨rfl, rfl⟩ := sm2 hE
          exact xr_i hx hb hr hlk hG hI dX9_add_48
        · rw [if_neg c35] at hE
          refine lv_iload hx hb dX9_add_38 (lv_at hl 5 rfl) ?_
          obtain ⟨r6, hc, hE⟩ := bd1_some hE
          refine xc_S1 (rest := []) (c_X9_isWord hc) mw_X9_isWord km_X9_96 hx hb hml hown hG hI xA_of ⟨Nat.le_of_ble_eq_true rfl, Nat.le_of_ble_eq_true rfl⟩ rfl hl.1 rfl (Nat.le_of_ble_eq_true rfl) dX9_add_40 (fun H locs hI => ?_)
          refine lv_if_ne (tgt := 49) hx hb dX9_add_43 (by decide) (fun c43 => ?_) (fun c43 => ?_)
          · rw [if_neg c43] at hE
            refine lv_aload_n hx hb dX9_add_49 rfl (lv_at hl 0 rfl) ?_
            refine xg_get (C := RX9) (T := TX9) (M := 22) hx hb hown hG hI (by omega) eY_0 rfl inX9 0 (by decide) kf_X9_7 rfl dX9_add_50 ?_
            refine lv_sipush (v := 257) hx hb dX9_add_53 (by decide) ?_
            obtain ⟨v7, hv, hE⟩ := bd1_some hE
            refine xg_iald 0 hx hb hG hI (by omega) eY_1 rfl hv dX9_add_56 ?_
            refine lv_istore (lv' := [(6, .int v7), (0, .ref (A 0)), (1, .int p1), (2, .int p2), (3, .int p3), (4, .int p4), (5, .int p5)]) hx hb dX9_add_57 hl (by decide) rfl (fun ls hl => ?_)
            refine lv_iload hx hb dX9_add_59 (lv_at hl 0 rfl) ?_
            refine lv_bipush (v := 16) hx hb dX9_add_61 (by decide) ?_
            refine lv_icmp_ne (tgt := 69) hx hb dX9_add_63 (by decide) (fun c63 => ?_) (fun c63 => ?_)
            · rw [if_neg c63] at hE
              refine lv_aload_n hx hb dX9_add_69 rfl (lv_at hl 1 rfl) ?_
              refine xg_get (C := RX9) (T := TX9) (M := 22) hx hb hown hG hI (by omega) eY_0 rfl inX9 0 (by decide) kf_X9_7 rfl dX9_add_70 ?_
              refine lv_sipush (v := 257) hx hb dX9_add_73 (by decide) ?_
              refine lv_dup2_11 hx hb dX9_add_76 rfl rfl ?_
              obtain ⟨v8, hv, hE⟩ := bd1_some hE
              refine xg_iald 0 hx hb hG hI (by omega) eY_1 rfl hv dX9_add_77 ?_
              refine lv_iconst (v := 1) hx hb dX9_add_78 (by decide) ?_
              refine lv_iadd hx hb dX9_add_79 ?_
              obtain ⟨mu9, hv, hE⟩ := bd1_some hE
              refine xg_iast 0 hx hb hG hI (by omega) eY_1 rfl hv dX9_add_80 (fun H locs hI => ?_)
              refine lv_aload_n hx hb dX9_add_81 rfl (lv_at hl 1 rfl) ?_
              refine lv_iload_n hx hb dX9_add_82 rfl (lv_at hl 2 rfl) ?_
              refine lv_iload hx hb dX9_add_83 (lv_at hl 0 rfl) ?_
              refine lv_iload_n hx hb dX9_add_85 rfl (lv_at hl 3 rfl) ?_
              refine lv_iload_n hx hb dX9_add_86 rfl (lv_at hl 4 rfl) ?_
              obtain ⟨mu10, hc, hE⟩ := bd1_some hE
              refine xc_V0 (rest := []) (c_X9_hang hc) mw_X9_hang km_X9_99 hx hb hml hown hG hI xA_of (wG_atE (by omega) eY_0) rfl rfl ⟨Nat.le_of_ble_eq_true rfl, Nat.le_of_ble_eq_true rfl⟩ rfl hl.1 rfl (Nat.le_of_ble_eq_true rfl) dX9_add_87 (fun H locs hI => ?_)
              refine lv_aload_n hx hb dX9_add_90 rfl (lv_at hl 1 rfl) ?_
              refine xg_get (C := RX9) (T := TX9) (M := 22) hx hb hown hG hI (by omega) eY_0 rfl inX9 0 (by decide) kf_X9_7 rfl dX9_add_91 ?_
              refine lv_bipush (v := 64) hx hb dX9_add_94 (by decide) ?_
              refine lv_iload_n hx hb dX9_add_96 rfl (lv_at hl 2 rfl) ?_
              refine lv_imul hx hb dX9_add_97 ?_
              refine lv_bipush (v := 32) hx hb dX9_add_98 (by decide) ?_
              refine lv_iadd hx hb dX9_add_100 ?_
              refine lv_iload hx hb dX9_add_101 (lv_at hl 0 rfl) ?_
              refine lv_iadd hx hb dX9_add_103 ?_
              refine lv_iload hx hb dX9_add_104 (lv_at hl 5 rfl) ?_
              obtain ⟨mu11, hv, hE⟩ := bd1_some hE
              refine xg_iast 0 hx hb hG hI (by omega) eY_1 rfl hv dX9_add_106 (fun H locs hI => ?_)
              refine lv_aload_n hx hb dX9_add_107 rfl (lv_at hl 1 rfl) ?_
              refine xg_get (C := RX9) (T := TX9) (M := 22) hx hb hown hG hI (by omega) eY_0 rfl inX9 0 (by decide) kf_X9_7 rfl dX9_add_108 ?_
              refine lv_bipush (v := 64) hx hb dX9_add_111 (by decide) ?_
              refine lv_iload_n hx hb dX9_add_113 rfl (lv_at hl 2 rfl) ?_
              refine lv_imul hx hb dX9_add_114 ?_
              refine lv_bipush (v := 48) hx hb dX9_add_115 (by decide) ?_
              refine lv_iadd hx hb dX9_add_117 ?_
              refine lv_iload hx hb dX9_add_118 (lv_at hl 0 rfl) ?_
              refine lv_iadd hx hb dX9_add_120 ?_
              refine lv_iload hx hb dX9_add_121 (lv_at hl 6 rfl) ?_
              obtain ⟨mu12, hv, hE⟩ := bd1_some hE
              refine xg_iast 0 hx hb hG hI (by omega) eY_1 rfl hv dX9_add_123 (fun H locs hI => ?_)
              refine lv_iload hx hb dX9_add_124 (lv_at hl 0 rfl) ?_
              obtain ⟨rfl, rfl⟩ := sm2 hE
              exact xr_i hx hb hr hlk hG hI dX9_add_126
            · rw [if_pos c63] at hE
              refine lv_bipush (v := (-4)) hx hb dX9_add_66 (by decide) ?_
              obtain ⟨rfl, rfl⟩ := sm2 hE
              exact xr_i hx hb hr hlk hG hI dX9_add_68
          · rw [if_pos c43] at hE
            refine lv_bipush (v := (-2)) hx hb dX9_add_46 (by decide) ?_
            obtain ⟨rfl, rfl⟩ := sm2 hE
            exact xr_i hx hb hr hlk hG hI dX9_add_48
def X9_move (u : Mem) (p1 : Int32) (p2 : Int32) (p3 : Int32) (p4 : Int32) : Option (Int32 × Mem) :=
  (X9_isOutline p1 : Option Bool).bind fun (r1 : Bool) => (if (b2i r1) = 0 then some ((-2), u) else (X9_isThere u p1 p2 : Option Bool).bind fun (r2 : Bool) => (if (b2i r2) = 0 then some ((-2), u) else (if p2 = 0 then some ((-2), u) else (X9_isThere u p1 p3 : Option Bool).bind fun (r3 : Bool) => (if (b2i r3) = 0 then some ((-2), u) else (X9_childrenOf u p1 p3 : Option Int32).bind fun (r4 : Int32) => (X9_parentOf u p1 p2 : Option Int32).bind fun (r5 : Int32) => ((if r5 = p3 then some 1 else some 0) : Option Int32).bind fun (x6 : Int32) => (X9_in p4 0 (r4 - x6) : Option Bool).bind fun (r8 : Bool) => (if (b2i r8) = 0 then some ((-2), u) else (X9_belowOf u p1 p2 : Option Int32).bind fun (r9 : Int32) => (if ((r9 >>> (p3 &&& 31)) &&& 1) = 1 then some ((-3), u) else (X9_placeOf u p1 p2 : Option Int32).bind fun (r10 : Int32) => (X9_unhang u p1 p2 : Option Mem).bind fun (mu11 : Mem) => (X9_hang mu11 p1 p2 p3 p4 : Option Mem).bind fun (mu12 : Mem) => some (r10, mu12)))))))
set_option maxHeartbeats 4000000 in
set_option maxRecDepth 100000 in
theorem c_X9_move {l : Launch} {D : va_G} {A : Nat → Nat} {cI cZ cD : ClassId} {u u1 : Mem} {p1 : Int32} {p2 : Int32} {p3 : Int32} {p4 : Int32} {r : Int32}  (hE : X9_move u p1 p2 p3 p4 = some (r, u1)) : Ct l yX9_move cX9_move 7 (some .int) (rmOf 3 71) D (tyL cI cZ cD) [.ref (A 0), .int p1, .int p2, .int p3, .int p4] (wY A cI u) (some (.int r)) (wY A cI u1) := by
  refine Ct.ofW (by decide +kernel) (fun p e s m below meth c hC hI => ?_)
  obtain ⟨hx, hb, hml, hown, hr, hlk, hG⟩ := hC
  have hown : s.vm.findClass RX9 = some m.cls := hown
  have hl := lv_entry ([.ref (A 0), .int p1, .int p2, .int p3, .int p4] : List Value) (n := 7) (Nat.le_of_ble_eq_true rfl)
  rw [lg_entry_eq]
  generalize (lg_sl ([.ref (A 0), .int p1, .int p2, .int p3, .int p4] : List Value) ++ List.replicate (7 - (lg_sl ([.ref (A 0), .int p1, .int p2, .int p3, .int p4] : List Value)).length) Slot.unset).toArray = ls at hl ⊢
  have hl : lv_has ls 7 [(0, .ref (A 0)), (1, .int p1), (2, .int p2), (3, .int p3), (4, .int p4)] := hl
  unfold X9_move at hE
  refine lv_iload_n hx hb dX9_move_0 rfl (lv_at hl 1 rfl) ?_
  obtain ⟨r1, hc, hE⟩ := bd1_some hE
  refine xc_S1 (rest := []) (c_X9_isOutline hc) mw_X9_isOutline km_X9_87 hx hb hml hown hG hI xA_of ⟨Nat.le_of_ble_eq_true rfl, Nat.le_of_ble_eq_true rfl⟩ rfl hl.1 rfl (Nat.le_of_ble_eq_true rfl) dX9_move_1 (fun H locs hI => ?_)
  refine lv_if_eq (tgt := 29) hx hb dX9_move_4 (by decide) (fun c4 => ?_) (fun c4 => ?_)
  · rw [if_pos c4] at hE
    refine lv_bipush (v := (-2)) hx hb dX9_move_29 (by decide) ?_
    obtain ⟨rfl, rfl⟩ := sm2 hE
    exact xr_i hx hb hr hlk hG hI dX9_move_31
  · rw [if_neg c4] at hE
    refine lv_aload_n hx hb dX9_move_7 rfl (lv_at hl 0 rfl) ?_
    refine lv_iload_n hx hb dX9_move_8 rfl (lv_at hl 1 rfl) ?_
    refine lv_iload_n hx hb dX9_move_9 rfl (lv_at hl 2 rfl) ?_
    obtain ⟨r2, hc, hE⟩ := bd1_some hE
    refine xc_V1 (rest := []) (c_X9_isThere hc) mw_X9_isThere km_X9_90 hx hb hml hown hG hI xA_of (wG_atE (by omega) eY_0) rfl rfl ⟨Nat.le_of_ble_eq_true rfl, Nat.le_of_ble_eq_true rfl⟩ rfl hl.1 rfl (Nat.le_of_ble_eq_true rfl) dX9_move_10 (fun H locs hI => ?_)
    refine lv_if_eq (tgt := 29) hx hb dX9_move_13 (by decide) (fun c13 => ?_) (fun c13 => ?_)
    · rw [if_pos c13] at hE
      refine lv_bipush (v := (-2)) hx hb dX9_move_29 (by decide) ?_
      obtain ⟨rfl, rfl⟩ := sm2 hE
      exact xr_i hx hb hr hlk hG hI dX9_move_31
    · rw [if_neg c13] at hE
      refine lv_iload_n hx hb dX9_move_16 rfl (lv_at hl 2 rfl) ?_
      refine lv_if_eq (tgt := 29) hx hb dX9_move_17 (by decide) (fun c17 => ?_) (fun c17 => ?_)
      · rw [if_pos c17] at hE
        refine lv_bipush (v := (-2)) hx hb dX9_move_29 (by decide) ?_
        obtain ⟨rfl, rfl⟩ := sm2 hE
        exact xr_i hx hb hr hlk hG hI dX9_move_31
      · rw [if_neg c17] at hE
        refine lv_aload_n hx hb dX9_move_20 rfl (lv_at hl 0 rfl) ?_
        refine lv_iload_n hx hb dX9_move_21 rfl (lv_at hl 1 rfl) ?_
        refine lv_iload_n hx hb dX9_move_22 rfl (lv_at hl 3 rfl) ?_
        obtain ⟨r3, hc, hE⟩ := bd1_some hE
        refine xc_V1 (rest := []) (c_X9_isThere hc) mw_X9_isThere km_X9_90 hx hb hml hown hG hI xA_of (wG_atE (by omega) eY_0) rfl rfl ⟨Nat.le_of_ble_eq_true rfl, Nat.le_of_ble_eq_true rfl⟩ rfl hl.1 rfl (Nat.le_of_ble_eq_true rfl) dX9_move_23 (fun H locs hI => ?_)
        refine lv_if_ne (tgt := 32) hx hb dX9_move_26 (by decide) (fun c26 => ?_) (fun c26 => ?_)
        · rw [if_neg c26] at hE
          refine lv_aload_n hx hb dX9_move_32 rfl (lv_at hl 0 rfl) ?_
          refine lv_iload_n hx hb dX9_move_33 rfl (lv_at hl 1 rfl) ?_
          refine lv_iload_n hx hb dX9_move_34 rfl (lv_at hl 3 rfl) ?_
          obtain ⟨r4, hc, hE⟩ := bd1_some hE
          refine xc_V1 (rest := []) (c_X9_childrenOf hc) mw_X9_childrenOf km_X9_93 hx hb hml hown hG hI xA_of (wG_atE (by omega) eY_0) rfl rfl ⟨Nat.le_of_ble_eq_true rfl, Nat.le_of_ble_eq_true rfl⟩ rfl hl.1 rfl (Nat.le_of_ble_eq_true rfl) dX9_move_35 (fun H locs hI => ?_)
          refine lv_aload_n hx hb dX9_move_38 rfl (lv_at hl 0 rfl) ?_
          refine lv_iload_n hx hb dX9_move_39 rfl (lv_at hl 1 rfl) ?_
          refine lv_iload_n hx hb dX9_move_40 rfl (lv_at hl 2 rfl) ?_
          obtain ⟨r5, hc, hE⟩ := bd1_some hE
          refine xc_V1 (rest := [.int r4]) (c_X9_parentOf hc) mw_X9_parentOf km_X9_76 hx hb hml hown hG hI xA_of (wG_atE (by omega) eY_0) rfl rfl ⟨Nat.le_of_ble_eq_true rfl, Nat.le_of_ble_eq_true rfl⟩ rfl hl.1 rfl (Nat.le_of_ble_eq_true rfl) dX9_move_41 (fun H locs hI => ?_)
          refine lv_iload_n hx hb dX9_move_44 rfl (lv_at hl 3 rfl) ?_
          obtain ⟨x6, hZ, hE⟩ := bd1_some hE
          have hJ53_6 : ∀ (H : Heap) (locs : List Loc) (ls : Array Slot), xI D (va_A (wY A cI u) s.heap.size) s.heap (wY A cI u) H locs → lv_has ls 7 [(0, .ref (A 0)), (1, .int p1), (2, .int p2), (3, .int p3), (4, .int p4)] → W p l e (rmOf 3 71) s m ([.ref (A 0), .int p1, .int p2, .int p3, .int p4] : List Value).toArray below meth c H locs 0 0 (xQ D (tyL cI cZ cD) below ([.ref (A 0), .int p1, .int p2, .int p3, .int p4] : List Value).toArray s (wY A cI u) (some (.int r)) (wY A cI u1)) (F0 m 53 ls [.int x6, .int r4]) := by
            intro H locs ls hI hl
            clear hZ
            refine lv_isub hx hb dX9_move_53 ?_
            refine lv_istore (lv' := [(5, .int (r4 - x6)), (0, .ref (A 0)), (1, .int p1), (2, .int p2), (3, .int p3), (4, .int p4)]) hx hb dX9_move_54 hl (by decide) rfl (fun ls hl => ?_)
            refine lv_iload hx hb dX9_move_56 (lv_at hl 5 rfl) ?_
            refine lv_iconst (v := 0) hx hb dX9_move_58 (by decide) ?_
            refine lv_iload hx hb dX9_move_59 (lv_at hl 0 rfl) ?_
            obtain ⟨r8, hc, hE⟩ := bd1_some hE
            refine xc_S1 (rest := []) (c_X9_in hc) mw_X9_in km_X9_68 hx hb hml hown hG hI xA_of ⟨Nat.le_of_ble_eq_true rfl, Nat.le_of_ble_eq_true rfl⟩ rfl hl.1 rfl (Nat.le_of_ble_eq_true rfl) dX9_move_61 (fun H locs hI => ?_)
            refine lv_if_ne (tgt := 70) hx hb dX9_move_64 (by decide) (fun c64 => ?_) (fun c64 => ?_)
            · rw [if_neg c64] at hE
              refine lv_aload_n hx hb dX9_move_70 rfl (lv_at hl 1 rfl) ?_
              refine lv_iload_n hx hb dX9_move_71 rfl (lv_at hl 2 rfl) ?_
              refine lv_iload_n hx hb dX9_move_72 rfl (lv_at hl 3 rfl) ?_
              obtain ⟨r9, hc, hE⟩ := bd1_some hE
              refine xc_V1 (rest := []) (c_X9_belowOf hc) mw_X9_belowOf km_X9_102 hx hb hml hown hG hI xA_of (wG_atE (by omega) eY_0) rfl rfl ⟨Nat.le_of_ble_eq_true rfl, Nat.le_of_ble_eq_true rfl⟩ rfl hl.1 rfl (Nat.le_of_ble_eq_true rfl) dX9_move_73 (fun H locs hI => ?_)
              refine lv_iload_n hx hb dX9_move_76 rfl (lv_at hl 4 rfl) ?_
              refine lv_ishr hx hb dX9_move_77 ?_
              refine lv_iconst (v := 1) hx hb dX9_move_78 (by decide) ?_
              refine lv_iand hx hb dX9_move_79 ?_
              refine lv_iconst (v := 1) hx hb dX9_move_80 (by decide) ?_
              refine lv_icmp_ne (tgt := 87) hx hb dX9_move_81 (by decide) (fun c81 => ?_) (fun c81 => ?_)
              · rw [if_neg c81] at hE
                refine lv_aload_n hx hb dX9_move_87 rfl (lv_at hl 1 rfl) ?_
                refine lv_iload_n hx hb dX9_move_88 rfl (lv_at hl 2 rfl) ?_
                refine lv_iload_n hx hb dX9_move_89 rfl (lv_at hl 3 rfl) ?_
                obtain ⟨r10, hc, hE⟩ := bd1_some hE
                refine xc_V1 (rest := []) (c_X9_placeOf hc) mw_X9_placeOf km_X9_80 hx hb hml hown hG hI xA_of (wG_atE (by omega) eY_0) rfl rfl ⟨Nat.le_of_ble_eq_true rfl, Nat.le_of_ble_eq_true rfl⟩ rfl hl.1 rfl (Nat.le_of_ble_eq_true rfl) dX9_move_90 (fun H locs hI => ?_)
                refine lv_istore (lv' := [(6, .int r10), (5, .int (r4 - x6)), (0, .ref (A 0)), (1, .int p1), (2, .int p2), (3, .int p3), (4, .int p4)]) hx hb dX9_move_93 hl (by decide) rfl (fun ls hl => ?_)
                refine lv_aload_n hx hb dX9_move_95 rfl (lv_at hl 2 rfl) ?_
                refine lv_iload_n hx hb dX9_move_96 rfl (lv_at hl 3 rfl) ?_
                refine lv_iload_n hx hb dX9_move_97 rfl (lv_at hl 4 rfl) ?_
                obtain ⟨mu11, hc, hE⟩ := bd1_some hE
                refine xc_V0 (rest := []) (c_X9_unhang hc) mw_X9_unhang km_X9_105 hx hb hml hown hG hI xA_of (wG_atE (by omega) eY_0) rfl rfl ⟨Nat.le_of_ble_eq_true rfl, Nat.le_of_ble_eq_true rfl⟩ rfl hl.1 rfl (Nat.le_of_ble_eq_true rfl) dX9_move_98 (fun H locs hI => ?_)
                refine lv_aload_n hx hb dX9_move_101 rfl (lv_at hl 2 rfl) ?_
                refine lv_iload_n hx hb dX9_move_102 rfl (lv_at hl 3 rfl) ?_
                refine lv_iload_n hx hb dX9_move_103 rfl (lv_at hl 4 rfl) ?_
                refine lv_iload_n hx hb dX9_move_104 rfl (lv_at hl 5 rfl) ?_
                refine lv_iload hx hb dX9_move_105 (lv_at hl 6 rfl) ?_
                obtain ⟨mu12, hc, hE⟩ := bd1_some hE
                refine xc_V0 (rest := []) (c_X9_hang hc) mw_X9_hang km_X9_99 hx hb hml hown hG hI xA_of (wG_atE (by omega) eY_0) rfl rfl ⟨Nat.le_of_ble_eq_true rfl, Nat.le_of_ble_eq_true rfl⟩ rfl hl.1 rfl (Nat.le_of_ble_eq_true rfl) dX9_move_107 (fun H locs hI => ?_)
                refine lv_iload hx hb dX9_move_110 (lv_at hl 0 rfl) ?_
                obtain ⟨rfl, rfl⟩ := sm2 hE
                exact xr_i hx hb hr hlk hG hI dX9_move_112
              · rw [if_pos c81] at hE
                refine lv_bipush (v := (-3)) hx hb dX9_move_84 (by decide) ?_
                obtain ⟨rfl, rfl⟩ := sm2 hE
                exact xr_i hx hb hr hlk hG hI dX9_move_86
            · rw [if_pos c64] at hE
              refine lv_bipush (v := (-2)) hx hb dX9_move_67 (by decide) ?_
              obtain ⟨rfl, rfl⟩ := sm2 hE
              exact xr_i hx hb hr hlk hG hI dX9_move_69
          replace hE := hZ
          clear hZ
          refine lv_icmp_ne (tgt := 52) hx hb dX9_move_45 (by decide) (fun c45 => ?_) (fun c45 => ?_)
          · rw [if_neg c45] at hE
            refine lv_iconst (v := 0) hx hb dX9_move_52 (by decide) ?_
            obtain rfl := sm1 hE
            exact hJ53_6 _ _ _ hI (lv_sub hl [0, 1, 2, 3, 4] rfl)
          · rw [if_pos c45] at hE
            refine lv_iconst (v := 1) hx hb dX9_move_48 (by decide) ?_
            refine lv_goto (tgt := 53) hx hb dX9_move_49 (by decide) ?_
            obtain rfl := sm1 hE
            exact hJ53_6 _ _ _ hI (lv_sub hl [0, 1, 2, 3, 4] rfl)
        · rw [if_pos c26] at hE
          refine lv_bipush (v := (-2)) hx hb dX9_move_29 (by decide) ?_
          obtain ⟨rfl, rfl⟩ := sm2 hE
          exact xr_i hx hb hr hlk hG hI dX9_move_31
def X9_put (u : Mem) (p1 : Int32) (p2 : Int32) (p3 : Int32) (p4 : Int32) : Option (Int32 × Mem) :=
  (X9_isOutline p1 : Option Bool).bind fun (r1 : Bool) => (if (b2i r1) = 0 then some ((-2), u) else (X9_isThere u p1 p2 : Option Bool).bind fun (r2 : Bool) => (if (b2i r2) = 0 then some ((-2), u) else (X9_isWord p4 : Option Bool).bind fun (r3 : Bool) => (if (b2i r3) = 0 then some ((-2), u) else (rd 258 (u 1) (((64 * p1) + p3) + p2)).bind fun v4 => (stI 258 u 1 (((64 * p1) + p3) + p2) p4).bind fun mu5 => some (v4, mu5))))
set_option maxHeartbeats 4000000 in
set_option maxRecDepth 100000 in
theorem c_X9_put {l : Launch} {D : va_G} {A : Nat → Nat} {cI cZ cD : ClassId} {u u1 : Mem} {p1 : Int32} {p2 : Int32} {p3 : Int32} {p4 : Int32} {r : Int32}  (hE : X9_put u p1 p2 p3 p4 = some (r, u1)) : Ct l yX9_put cX9_put 6 (some .int) (rmOf 2 44) D (tyL cI cZ cD) [.ref (A 0), .int p1, .int p2, .int p3, .int p4] (wY A cI u) (some (.int r)) (wY A cI u1) := by
  refine Ct.ofW (by decide +kernel) (fun p e s m below meth c hC hI => ?_)
  obtain ⟨hx, hb, hml, hown, hr, hlk, hG⟩ := hC
  have hown : s.vm.findClass RX9 = some m.cls := hown
  have hl := lv_entry ([.ref (A 0), .int p1, .int p2, .int p3, .int p4] : List Value) (n := 6) (Nat.le_of_ble_eq_true rfl)
  rw [lg_entry_eq]
  generalize (lg_sl ([.ref (A 0), .int p1, .int p2, .int p3, .int p4] : List Value) ++ List.replicate (6 - (lg_sl ([.ref (A 0), .int p1, .int p2, .int p3, .int p4] : List Value)).length) Slot.unset).toArray = ls at hl ⊢
  have hl : lv_has ls 6 [(0, .ref (A 0)), (1, .int p1), (2, .int p2), (3, .int p3), (4, .int p4)] := hl
  unfold X9_put at hE
  refine lv_iload_n hx hb dX9_put_0 rfl (lv_at hl 1 rfl) ?_
  obtain ⟨r1, hc, hE⟩ := bd1_some hE
  refine xc_S1 (rest := []) (c_X9_isOutline hc) mw_X9_isOutline km_X9_87 hx hb hml hown hG hI xA_of ⟨Nat.le_of_ble_eq_true rfl, Nat.le_of_ble_eq_true rfl⟩ rfl hl.1 rfl (Nat.le_of_ble_eq_true rfl) dX9_put_1 (fun H locs hI => ?_)
  refine lv_if_eq (tgt := 24) hx hb dX9_put_4 (by decide) (fun c4 => ?_) (fun c4 => ?_)
  · rw [if_pos c4] at hE
    refine lv_bipush (v := (-2)) hx hb dX9_put_24 (by decide) ?_
    obtain ⟨rfl, rfl⟩ := sm2 hE
    exact xr_i hx hb hr hlk hG hI dX9_put_26
  · rw [if_neg c4] at hE
    refine lv_aload_n hx hb dX9_put_7 rfl (lv_at hl 0 rfl) ?_
    refine lv_iload_n hx hb dX9_put_8 rfl (lv_at hl 1 rfl) ?_
    refine lv_iload_n hx hb dX9_put_9 rfl (lv_at hl 2 rfl) ?_
    obtain ⟨r2, hc, hE⟩ := bd1_some hE
    refine xc_V1 (rest := []) (c_X9_isThere hc) mw_X9_isThere km_X9_90 hx hb hml hown hG hI xA_of (wG_atE (by omega) eY_0) rfl rfl ⟨Nat.le_of_ble_eq_true rfl, Nat.le_of_ble_eq_true rfl⟩ rfl hl.1 rfl (Nat.le_of_ble_eq_true rfl) dX9_put_10 (fun H locs hI => ?_)
    refine lv_if_eq (tgt := 24) hx hb dX9_put_13 (by decide) (fun c13 => ?_) (fun c13 => ?_)
    · rw [if_pos c13] at hE
      refine lv_bipush (v := (-2)) hx hb dX9_put_24 (by decide) ?_
      obtain ⟨rfl, rfl⟩ := sm2 hE
      exact xr_i hx hb hr hlk hG hI dX9_put_26
    · rw [if_neg c13] at hE
      refine lv_iload hx hb dX9_put_16 (lv_at hl 4 rfl) ?_
      obtain ⟨r3, hc, hE⟩ := bd1_some hE
      refine xc_S1 (rest := []) (c_X9_isWord hc) mw_X9_isWord km_X9_96 hx hb hml hown hG hI xA_of ⟨Nat.le_of_ble_eq_true rfl, Nat.le_of_ble_eq_true rfl⟩ rfl hl.1 rfl (Nat.le_of_ble_eq_true rfl) dX9_put_18 (fun H locs hI => ?_)
      refine lv_if_ne (tgt := 27) hx hb dX9_put_21 (by decide) (fun c21 => ?_) (fun c21 => ?_)
      · rw [if_neg c21] at hE
        refine lv_aload_n hx hb dX9_put_27 rfl (lv_at hl 0 rfl) ?_
        refine xg_get (C := RX9) (T := TX9) (M := 22) hx hb hown hG hI (by omega) eY_0 rfl inX9 0 (by decide) kf_X9_7 rfl dX9_put_28 ?_
        refine lv_bipush (v := 64) hx hb dX9_put_31 (by decide) ?_
        refine lv_iload_n hx hb dX9_put_33 rfl (lv_at hl 1 rfl) ?_
        refine lv_imul hx hb dX9_put_34 ?_
        refine lv_iload_n hx hb dX9_put_35 rfl (lv_at hl 3 rfl) ?_
        refine lv_iadd hx hb dX9_put_36 ?_
        refine lv_iload_n hx hb dX9_put_37 rfl (lv_at hl 2 rfl) ?_
        refine lv_iadd hx hb dX9_put_38 ?_
        obtain ⟨v4, hv, hE⟩ := bd1_some hE
        refine xg_iald 0 hx hb hG hI (by omega) eY_1 rfl hv dX9_put_39 ?_
        refine lv_istore (lv' := [(5, .int v4), (0, .ref (A 0)), (1, .int p1), (2, .int p2), (3, .int p3), (4, .int p4)]) hx hb dX9_put_40 hl (by decide) rfl (fun ls hl => ?_)
        refine lv_aload_n hx hb dX9_put_42 rfl (lv_at hl 1 rfl) ?_
        refine xg_get (C := RX9) (T := TX9) (M := 22) hx hb hown hG hI (by omega) eY_0 rfl inX9 0 (by decide) kf_X9_7 rfl dX9_put_43 ?_
        refine lv_bipush (v := 64) hx hb dX9_put_46 (by decide) ?_
        refine lv_iload_n hx hb dX9_put_48 rfl (lv_at hl 2 rfl) ?_
        refine lv_imul hx hb dX9_put_49 ?_
        refine lv_iload_n hx hb dX9_put_50 rfl (lv_at hl 4 rfl) ?_
        refine lv_iadd hx hb dX9_put_51 ?_
        refine lv_iload_n hx hb dX9_put_52 rfl (lv_at hl 3 rfl) ?_
        refine lv_iadd hx hb dX9_put_53 ?_
        refine lv_iload hx hb dX9_put_54 (lv_at hl 5 rfl) ?_
        obtain ⟨mu5, hv, hE⟩ := bd1_some hE
        refine xg_iast 0 hx hb hG hI (by omega) eY_1 rfl hv dX9_put_56 (fun H locs hI => ?_)
        refine lv_iload hx hb dX9_put_57 (lv_at hl 0 rfl) ?_
        obtain ⟨rfl, rfl⟩ := sm2 hE
        exact xr_i hx hb hr hlk hG hI dX9_put_59
      · rw [if_pos c21] at hE
        refine lv_bipush (v := (-2)) hx hb dX9_put_24 (by decide) ?_
        obtain ⟨rfl, rfl⟩ := sm2 hE
        exact xr_i hx hb hr hlk hG hI dX9_put_26
def X9_delete_L39 (p1 : Int32) (r3 : Int32) : Nat → Int32 → Mem → Option (Mem)
  | 0, _, _ => none
  | n39 + 1, x5, mu6 =>
    (if 16 ≤ x5 then some mu6 else ((if ((r3 >>> (x5 &&& 31)) &&& 1) = 1 then some (-9) else (X9_parentOf mu6 p1 x5 : Option Int32).bind fun (r13 : Int32) => some r13) : Option Int32).bind fun (x10 : Int32) => (stI 258 mu6 1 ((64 * p1) + x5) x10).bind fun mu12 => X9_delete_L39 p1 r3 n39 (x5 + 1) mu12)
def X9_delete (u : Mem) (p1 : Int32) (p2 : Int32) : Option (Int32 × Mem) :=
  (X9_isOutline p1 : Option Bool).bind fun (r1 : Bool) => (if (b2i r1) = 0 then some ((-2), u) else (X9_isThere u p1 p2 : Option Bool).bind fun (r2 : Bool) => (if (b2i r2) = 0 then some ((-2), u) else (if p2 = 0 then some ((-2), u) else (X9_belowOf u p1 p2 : Option Int32).bind fun (r3 : Int32) => (X9_unhang u p1 p2 : Option Mem).bind fun (mu4 : Mem) => (X9_delete_L39 p1 r3 fu 1 mu4 : Option Mem).bind fun (mu7 : Mem) => (X9_ones r3 : Option Int32).bind fun (r9 : Int32) => some (r9, mu7))))
set_option maxHeartbeats 4000000 in
set_option maxRecDepth 100000 in
theorem c_X9_delete {l : Launch} {D : va_G} {A : Nat → Nat} {cI cZ cD : ClassId} {u u1 : Mem} {p1 : Int32} {p2 : Int32} {r : Int32}  (hE : X9_delete u p1 p2 = some (r, u1)) : Ct l yX9_delete cX9_delete 5 (some .int) (rmOf 3 71) D (tyL cI cZ cD) [.ref (A 0), .int p1, .int p2] (wY A cI u) (some (.int r)) (wY A cI u1) := by
  refine Ct.ofW (by decide +kernel) (fun p e s m below meth c hC hI => ?_)
  obtain ⟨hx, hb, hml, hown, hr, hlk, hG⟩ := hC
  have hown : s.vm.findClass RX9 = some m.cls := hown
  have hl := lv_entry ([.ref (A 0), .int p1, .int p2] : List Value) (n := 5) (Nat.le_of_ble_eq_true rfl)
  rw [lg_entry_eq]
  generalize (lg_sl ([.ref (A 0), .int p1, .int p2] : List Value) ++ List.replicate (5 - (lg_sl ([.ref (A 0), .int p1, .int p2] : List Value)).length) Slot.unset).toArray = ls at hl ⊢
  have hl : lv_has ls 5 [(0, .ref (A 0)), (1, .int p1), (2, .int p2)] := hl
  unfold X9_delete at hE
  refine lv_iload_n hx hb dX9_delete_0 rfl (lv_at hl 1 rfl) ?_
  obtain ⟨r1, hc, hE⟩ := bd1_some hE
  refine xc_S1 (rest := []) (c_X9_isOutline hc) mw_X9_isOutline km_X9_87 hx hb hml hown hG hI xA_of ⟨Nat.le_of_ble_eq_true rfl, Nat.le_of_ble_eq_true rfl⟩ rfl hl.1 rfl (Nat.le_of_ble_eq_true rfl) dX9_delete_1 (fun H locs hI => ?_)
  refine lv_if_eq (tgt := 20) hx hb dX9_delete_4 (by decide) (fun c4 => ?_) (fun c4 => ?_)
  · rw [if_pos c4] at hE
    refine lv_bipush (v := (-2)) hx hb dX9_delete_20 (by decide) ?_
    obtain ⟨rfl, rfl⟩ := sm2 hE
    exact xr_i hx hb hr hlk hG hI dX9_delete_22
  · rw [if_neg c4] at hE
    refine lv_aload_n hx hb dX9_delete_7 rfl (lv_at hl 0 rfl) ?_
    refine lv_iload_n hx hb dX9_delete_8 rfl (lv_at hl 1 rfl) ?_
    refine lv_iload_n hx hb dX9_delete_9 rfl (lv_at hl 2 rfl) ?_
    obtain ⟨r2, hc, hE⟩ := bd1_some hE
    refine xc_V1 (rest := []) (c_X9_isThere hc) mw_X9_isThere km_X9_90 hx hb hml hown hG hI xA_of (wG_atE (by omega) eY_0) rfl rfl ⟨Nat.le_of_ble_eq_true rfl, Nat.le_of_ble_eq_true rfl⟩ rfl hl.1 rfl (Nat.le_of_ble_eq_true rfl) dX9_delete_10 (fun H locs hI => ?_)
    refine lv_if_eq (tgt := 20) hx hb dX9_delete_13 (by decide) (fun c13 => ?_) (fun c13 => ?_)
    · rw [if_pos c13] at hE
      refine lv_bipush (v := (-2)) hx hb dX9_delete_20 (by decide) ?_
      obtain ⟨rfl, rfl⟩ := sm2 hE
      exact xr_i hx hb hr hlk hG hI dX9_delete_22
    · rw [if_neg c13] at hE
      refine lv_iload_n hx hb dX9_delete_16 rfl (lv_at hl 2 rfl) ?_
      refine lv_if_ne (tgt := 23) hx hb dX9_delete_17 (by decide) (fun c17 => ?_) (fun c17 => ?_)
      · rw [if_neg c17] at hE
        refine lv_aload_n hx hb dX9_delete_23 rfl (lv_at hl 0 rfl) ?_
        refine lv_iload_n hx hb dX9_delete_24 rfl (lv_at hl 1 rfl) ?_
        refine lv_iload_n hx hb dX9_delete_25 rfl (lv_at hl 2 rfl) ?_
        obtain ⟨r3, hc, hE⟩ := bd1_some hE
        refine xc_V1 (rest := []) (c_X9_belowOf hc) mw_X9_belowOf km_X9_102 hx hb hml hown hG hI xA_of (wG_atE (by omega) eY_0) rfl rfl ⟨Nat.le_of_ble_eq_true rfl, Nat.le_of_ble_eq_true rfl⟩ rfl hl.1 rfl (Nat.le_of_ble_eq_true rfl) dX9_delete_26 (fun H locs hI => ?_)
        refine lv_istore_n (lv' := [(3, .int r3), (0, .ref (A 0)), (1, .int p1), (2, .int p2)]) hx hb dX9_delete_29 rfl hl (by decide) rfl (fun ls hl => ?_)
        refine lv_aload_n hx hb dX9_delete_30 rfl (lv_at hl 1 rfl) ?_
        refine lv_iload_n hx hb dX9_delete_31 rfl (lv_at hl 2 rfl) ?_
        refine lv_iload_n hx hb dX9_delete_32 rfl (lv_at hl 3 rfl) ?_
        obtain ⟨mu4, hc, hE⟩ := bd1_some hE
        refine xc_V0 (rest := []) (c_X9_unhang hc) mw_X9_unhang km_X9_105 hx hb hml hown hG hI xA_of (wG_atE (by omega) eY_0) rfl rfl ⟨Nat.le_of_ble_eq_true rfl, Nat.le_of_ble_eq_true rfl⟩ rfl hl.1 rfl (Nat.le_of_ble_eq_true rfl) dX9_delete_33 (fun H locs hI => ?_)
        refine lv_iconst (v := 1) hx hb dX9_delete_36 (by decide) ?_
        refine lv_istore (lv' := [(4, .int 1), (3, .int r3), (0, .ref (A 0)), (1, .int p1), (2, .int p2)]) hx hb dX9_delete_37 hl (by decide) rfl (fun ls hl => ?_)
        obtain ⟨mu7, hZ, hE⟩ := bd1_some hE
        have hX39_7 : ∀ (H : Heap) (locs : List Loc) (ls : Array Slot), xI D (va_A (wY A cI u) s.heap.size) s.heap (wY A cI mu7) H locs → lv_has ls 5 [(3, .int r3)] → W p l e (rmOf 3 71) s m ([.ref (A 0), .int p1, .int p2] : List Value).toArray below meth c H locs 0 0 (xQ D (tyL cI cZ cD) below ([.ref (A 0), .int p1, .int p2] : List Value).toArray s (wY A cI u) (some (.int r)) (wY A cI u1)) (F0 m 86 ls []) := by
          intro H locs ls hI hl
          clear hZ
          refine lv_iload_n hx hb dX9_delete_86 rfl (lv_at hl 0 rfl) ?_
          obtain ⟨r9, hc, hE⟩ := bd1_some hE
          refine xc_S1 (rest := []) (c_X9_ones hc) mw_X9_ones km_X9_109 hx hb hml hown hG hI xA_of ⟨Nat.le_of_ble_eq_true rfl, Nat.le_of_ble_eq_true rfl⟩ rfl hl.1 rfl (Nat.le_of_ble_eq_true rfl) dX9_delete_87 (fun H locs hI => ?_)
          obtain ⟨rfl, rfl⟩ := sm2 hE
          exact xr_i hx hb hr hlk hG hI dX9_delete_90
        replace hE := hZ
        clear hZ
        have hL39 : ∀ (n39 : Nat) (x5 : Int32) (mu6 : Mem) (H : Heap) (locs : List Loc) (ls : Array Slot), X9_delete_L39 p1 r3 n39 x5 mu6 = some mu7 → xI D (va_A (wY A cI u) s.heap.size) s.heap (wY A cI mu6) H locs → lv_has ls 5 [(0, .ref (A 0)), (1, .int p1), (3, .int r3), (4, .int x5)] → W p l e (rmOf 3 71) s m ([.ref (A 0), .int p1, .int p2] : List Value).toArray below meth c H locs 0 0 (xQ D (tyL cI cZ cD) below ([.ref (A 0), .int p1, .int p2] : List Value).toArray s (wY A cI u) (some (.int r)) (wY A cI u1)) (F0 m 39 ls []) := by
          intro n39
          induction n39 with
          | zero =>
            intro x5 mu6 H locs ls hE
            exact absurd hE (by simp [X9_delete_L39])
          | succ n39 ih39 =>
            intro x5 mu6 H locs ls hE hI hl
            rw [X9_delete_L39] at hE
            refine lv_iload hx hb dX9_delete_39 (lv_at hl 3 rfl) ?_
            refine lv_bipush (v := 16) hx hb dX9_delete_41 (by decide) ?_
            refine lv_icmp_ge (tgt := 86) hx hb dX9_delete_43 (by decide) (fun c43 => ?_) (fun c43 => ?_)
            · rw [if_pos c43] at hE
              obtain rfl := sm1 hE
              exact hX39_7 _ _ _ hI (lv_sub hl [2] rfl)
            · rw [if_neg c43] at hE
              refine lv_aload_n hx hb dX9_delete_46 rfl (lv_at hl 0 rfl) ?_
              refine xg_get (C := RX9) (T := TX9) (M := 22) hx hb hown hG hI (by omega) eY_0 rfl inX9 0 (by decide) kf_X9_7 rfl dX9_delete_47 ?_
              refine lv_bipush (v := 64) hx hb dX9_delete_50 (by decide) ?_
              refine lv_iload_n hx hb dX9_delete_52 rfl (lv_at hl 1 rfl) ?_
              refine lv_imul hx hb dX9_delete_53 ?_
              refine lv_iload hx hb dX9_delete_54 (lv_at hl 3 rfl) ?_
              refine lv_iadd hx hb dX9_delete_56 ?_
              refine lv_iload_n hx hb dX9_delete_57 rfl (lv_at hl 2 rfl) ?_
              refine lv_iload hx hb dX9_delete_58 (lv_at hl 3 rfl) ?_
              refine lv_ishr hx hb dX9_delete_60 ?_
              refine lv_iconst (v := 1) hx hb dX9_delete_61 (by decide) ?_
              refine lv_iand hx hb dX9_delete_62 ?_
              refine lv_iconst (v := 1) hx hb dX9_delete_63 (by decide) ?_
              obtain ⟨x10, hZ, hE⟩ := bd1_some hE
              have hJ79_10 : ∀ (H : Heap) (locs : List Loc) (ls : Array Slot), xI D (va_A (wY A cI u) s.heap.size) s.heap (wY A cI mu6) H locs → lv_has ls 5 [(0, .ref (A 0)), (1, .int p1), (3, .int r3), (4, .int x5)] → W p l e (rmOf 3 71) s m ([.ref (A 0), .int p1, .int p2] : List Value).toArray below meth c H locs 0 0 (xQ D (tyL cI cZ cD) below ([.ref (A 0), .int p1, .int p2] : List Value).toArray s (wY A cI u) (some (.int r)) (wY A cI u1)) (F0 m 79 ls [.int x10, .int ((64 * p1) + x5), .ref (A 1)]) := by
                intro H locs ls hI hl
                clear hZ
                obtain ⟨mu12, hv, hE⟩ := bd1_some hE
                refine xg_iast 0 hx hb hG hI (by omega) eY_1 rfl hv dX9_delete_79 (fun H locs hI => ?_)
                refine lv_iinc (v := x5 + 1) (lv' := [(4, .int (x5 + 1)), (0, .ref (A 0)), (1, .int p1), (3, .int r3)]) hx hb dX9_delete_80 hl (k := 3) rfl rfl (by decide) rfl (fun ls hl => ?_)
                refine lv_goto (tgt := 39) hx hb dX9_delete_83 (by decide) ?_
                exact ih39 _ _ _ _ _ hE hI (lv_sub hl [1, 2, 3, 0] rfl)
              replace hE := hZ
              clear hZ
              refine lv_icmp_ne (tgt := 72) hx hb dX9_delete_64 (by decide) (fun c64 => ?_) (fun c64 => ?_)
              · rw [if_neg c64] at hE
                refine lv_aload_n hx hb dX9_delete_72 rfl (lv_at hl 0 rfl) ?_
                refine lv_iload_n hx hb dX9_delete_73 rfl (lv_at hl 1 rfl) ?_
                refine lv_iload hx hb dX9_delete_74 (lv_at hl 3 rfl) ?_
                obtain ⟨r13, hc, hE⟩ := bd1_some hE
                refine xc_V1 (rest := [.int ((64 * p1) + x5), .ref (A 1)]) (c_X9_parentOf hc) mw_X9_parentOf km_X9_76 hx hb hml hown hG hI xA_of (wG_atE (by omega) eY_0) rfl rfl ⟨Nat.le_of_ble_eq_true rfl, Nat.le_of_ble_eq_true rfl⟩ rfl hl.1 rfl (Nat.le_of_ble_eq_true rfl) dX9_delete_76 (fun H locs hI => ?_)
                obtain rfl := sm1 hE
                exact hJ79_10 _ _ _ hI (lv_sub hl [0, 1, 2, 3] rfl)
              · rw [if_pos c64] at hE
                refine lv_bipush (v := (-9)) hx hb dX9_delete_67 (by decide) ?_
                refine lv_goto (tgt := 79) hx hb dX9_delete_69 (by decide) ?_
                obtain rfl := sm1 hE
                exact hJ79_10 _ _ _ hI (lv_sub hl [0, 1, 2, 3] rfl)
        exact hL39 _ _ _ _ _ _ hE hI (lv_sub hl [2, 3, 1, 0] rfl)
      · rw [if_pos c17] at hE
        refine lv_bipush (v := (-2)) hx hb dX9_delete_20 (by decide) ?_
        obtain ⟨rfl, rfl⟩ := sm2 hE
        exact xr_i hx hb hr hlk hG hI dX9_delete_22
def X9_fork (u : Mem) : Option (Int32 × Mem) :=
  (X9_bring u 1 0 1 64 64 : Option Mem).bind fun (mu1 : Mem) => (X9_bring mu1 1 0 1 128 64 : Option Mem).bind fun (mu2 : Mem) => (X9_manyIn mu2 0 : Option Int32).bind fun (r3 : Int32) => some (r3, mu2)
set_option maxHeartbeats 4000000 in
set_option maxRecDepth 100000 in
theorem c_X9_fork {l : Launch} {D : va_G} {A : Nat → Nat} {cI cZ cD : ClassId} {u u1 : Mem} {r : Int32}  (hE : X9_fork u = some (r, u1)) : Ct l yX9_fork cX9_fork 1 (some .int) (rmOf 2 45) D (tyL cI cZ cD) [.ref (A 0)] (wY A cI u) (some (.int r)) (wY A cI u1) := by
  refine Ct.ofW (by decide +kernel) (fun p e s m below meth c hC hI => ?_)
  obtain ⟨hx, hb, hml, hown, hr, hlk, hG⟩ := hC
  have hown : s.vm.findClass RX9 = some m.cls := hown
  have hl := lv_entry ([.ref (A 0)] : List Value) (n := 1) (Nat.le_of_ble_eq_true rfl)
  rw [lg_entry_eq]
  generalize (lg_sl ([.ref (A 0)] : List Value) ++ List.replicate (1 - (lg_sl ([.ref (A 0)] : List Value)).length) Slot.unset).toArray = ls at hl ⊢
  have hl : lv_has ls 1 [(0, .ref (A 0))] := hl
  unfold X9_fork at hE
  refine lv_aload_n hx hb dX9_fork_0 rfl (lv_at hl 0 rfl) ?_
  refine xg_get (C := RX9) (T := TX9) (M := 22) hx hb hown hG hI (by omega) eY_0 rfl inX9 0 (by decide) kf_X9_7 rfl dX9_fork_1 ?_
  refine lv_iconst (v := 0) hx hb dX9_fork_4 (by decide) ?_
  refine lv_aload_n hx hb dX9_fork_5 rfl (lv_at hl 0 rfl) ?_
  refine xg_get (C := RX9) (T := TX9) (M := 22) hx hb hown hG hI (by omega) eY_0 rfl inX9 0 (by decide) kf_X9_7 rfl dX9_fork_6 ?_
  refine lv_bipush (v := 64) hx hb dX9_fork_9 (by decide) ?_
  refine lv_bipush (v := 64) hx hb dX9_fork_11 (by decide) ?_
  obtain ⟨mu1, hc, hE⟩ := bd1_some hE
  refine xc_S0 (rest := []) (c_X9_bring (by omega) (by omega) hc) mw_X9_bring km_X9_52 hx hb hml hown hG hI xA_of ⟨Nat.le_of_ble_eq_true rfl, Nat.le_of_ble_eq_true rfl⟩ rfl hl.1 rfl (Nat.le_of_ble_eq_true rfl) dX9_fork_13 (fun H locs hI => ?_)
  refine lv_aload_n hx hb dX9_fork_16 rfl (lv_at hl 0 rfl) ?_
  refine xg_get (C := RX9) (T := TX9) (M := 22) hx hb hown hG hI (by omega) eY_0 rfl inX9 0 (by decide) kf_X9_7 rfl dX9_fork_17 ?_
  refine lv_iconst (v := 0) hx hb dX9_fork_20 (by decide) ?_
  refine lv_aload_n hx hb dX9_fork_21 rfl (lv_at hl 0 rfl) ?_
  refine xg_get (C := RX9) (T := TX9) (M := 22) hx hb hown hG hI (by omega) eY_0 rfl inX9 0 (by decide) kf_X9_7 rfl dX9_fork_22 ?_
  refine lv_sipush (v := 128) hx hb dX9_fork_25 (by decide) ?_
  refine lv_bipush (v := 64) hx hb dX9_fork_28 (by decide) ?_
  obtain ⟨mu2, hc, hE⟩ := bd1_some hE
  refine xc_S0 (rest := []) (c_X9_bring (by omega) (by omega) hc) mw_X9_bring km_X9_52 hx hb hml hown hG hI xA_of ⟨Nat.le_of_ble_eq_true rfl, Nat.le_of_ble_eq_true rfl⟩ rfl hl.1 rfl (Nat.le_of_ble_eq_true rfl) dX9_fork_30 (fun H locs hI => ?_)
  refine lv_aload_n hx hb dX9_fork_33 rfl (lv_at hl 0 rfl) ?_
  refine lv_iconst (v := 0) hx hb dX9_fork_34 (by decide) ?_
  obtain ⟨r3, hc, hE⟩ := bd1_some hE
  refine xc_V1 (rest := []) (c_X9_manyIn hc) mw_X9_manyIn km_X9_112 hx hb hml hown hG hI xA_of (wG_atE (by omega) eY_0) rfl rfl ⟨Nat.le_of_ble_eq_true rfl, Nat.le_of_ble_eq_true rfl⟩ rfl hl.1 rfl (Nat.le_of_ble_eq_true rfl) dX9_fork_35 (fun H locs hI => ?_)
  obtain ⟨rfl, rfl⟩ := sm2 hE
  exact xr_i hx hb hr hlk hG hI dX9_fork_38
def X9_prefer (u : Mem) (p1 : Int32) : Option (Int32 × Mem) :=
  (X9_in p1 1 2 : Option Bool).bind fun (r1 : Bool) => (if (b2i r1) = 0 then some ((-2), u) else (rd 258 (u 1) 256).bind fun v2 => (stI 258 u 1 256 p1).bind fun mu3 => some (v2, mu3))
set_option maxHeartbeats 4000000 in
set_option maxRecDepth 100000 in
theorem c_X9_prefer {l : Launch} {D : va_G} {A : Nat → Nat} {cI cZ cD : ClassId} {u u1 : Mem} {p1 : Int32} {r : Int32}  (hE : X9_prefer u p1 = some (r, u1)) : Ct l yX9_prefer cX9_prefer 3 (some .int) (rmOf 1 22) D (tyL cI cZ cD) [.ref (A 0), .int p1] (wY A cI u) (some (.int r)) (wY A cI u1) := by
  refine Ct.ofW (by decide +kernel) (fun p e s m below meth c hC hI => ?_)
  obtain ⟨hx, hb, hml, hown, hr, hlk, hG⟩ := hC
  have hown : s.vm.findClass RX9 = some m.cls := hown
  have hl := lv_entry ([.ref (A 0), .int p1] : List Value) (n := 3) (Nat.le_of_ble_eq_true rfl)
  rw [lg_entry_eq]
  generalize (lg_sl ([.ref (A 0), .int p1] : List Value) ++ List.replicate (3 - (lg_sl ([.ref (A 0), .int p1] : List Value)).length) Slot.unset).toArray = ls at hl ⊢
  have hl : lv_has ls 3 [(0, .ref (A 0)), (1, .int p1)] := hl
  unfold X9_prefer at hE
  refine lv_iload_n hx hb dX9_prefer_0 rfl (lv_at hl 1 rfl) ?_
  refine lv_iconst (v := 1) hx hb dX9_prefer_1 (by decide) ?_
  refine lv_iconst (v := 2) hx hb dX9_prefer_2 (by decide) ?_
  obtain ⟨r1, hc, hE⟩ := bd1_some hE
  refine xc_S1 (rest := []) (c_X9_in hc) mw_X9_in km_X9_68 hx hb hml hown hG hI xA_of ⟨Nat.le_of_ble_eq_true rfl, Nat.le_of_ble_eq_true rfl⟩ rfl hl.1 rfl (Nat.le_of_ble_eq_true rfl) dX9_prefer_3 (fun H locs hI => ?_)
  refine lv_if_ne (tgt := 12) hx hb dX9_prefer_6 (by decide) (fun c6 => ?_) (fun c6 => ?_)
  · rw [if_neg c6] at hE
    refine lv_aload_n hx hb dX9_prefer_12 rfl (lv_at hl 0 rfl) ?_
    refine xg_get (C := RX9) (T := TX9) (M := 22) hx hb hown hG hI (by omega) eY_0 rfl inX9 0 (by decide) kf_X9_7 rfl dX9_prefer_13 ?_
    refine lv_sipush (v := 256) hx hb dX9_prefer_16 (by decide) ?_
    obtain ⟨v2, hv, hE⟩ := bd1_some hE
    refine xg_iald 0 hx hb hG hI (by omega) eY_1 rfl hv dX9_prefer_19 ?_
    refine lv_istore_n (lv' := [(2, .int v2), (0, .ref (A 0)), (1, .int p1)]) hx hb dX9_prefer_20 rfl hl (by decide) rfl (fun ls hl => ?_)
    refine lv_aload_n hx hb dX9_prefer_21 rfl (lv_at hl 1 rfl) ?_
    refine xg_get (C := RX9) (T := TX9) (M := 22) hx hb hown hG hI (by omega) eY_0 rfl inX9 0 (by decide) kf_X9_7 rfl dX9_prefer_22 ?_
    refine lv_sipush (v := 256) hx hb dX9_prefer_25 (by decide) ?_
    refine lv_iload_n hx hb dX9_prefer_28 rfl (lv_at hl 2 rfl) ?_
    obtain ⟨mu3, hv, hE⟩ := bd1_some hE
    refine xg_iast 0 hx hb hG hI (by omega) eY_1 rfl hv dX9_prefer_29 (fun H locs hI => ?_)
    refine lv_iload_n hx hb dX9_prefer_30 rfl (lv_at hl 0 rfl) ?_
    obtain ⟨rfl, rfl⟩ := sm2 hE
    exact xr_i hx hb hr hlk hG hI dX9_prefer_31
  · rw [if_pos c6] at hE
    refine lv_bipush (v := (-2)) hx hb dX9_prefer_9 (by decide) ?_
    obtain ⟨rfl, rfl⟩ := sm2 hE
    exact xr_i hx hb hr hlk hG hI dX9_prefer_11
def X9_adds (u : Mem) (p1 : Int32) (p2 : Int32) (p3 : Int32) (p4 : Int32) (p5 : Int32) : Option (Int32 × Mem) :=
  (X9_save u : Option Mem).bind fun (mu1 : Mem) => bd2 (X9_add mu1 p1 p2 p3 p4 p5) fun (r2 : Int32) (mu3 : Mem) => bd2 (X9_finish mu3 r2) fun (r4 : Int32) (mu5 : Mem) => some (r4, mu5)
set_option maxHeartbeats 4000000 in
set_option maxRecDepth 100000 in
theorem c_X9_adds {l : Launch} {D : va_G} {A : Nat → Nat} {cI cZ cD : ClassId} {u u1 : Mem} {p1 : Int32} {p2 : Int32} {p3 : Int32} {p4 : Int32} {p5 : Int32} {r : Int32}  (hE : X9_adds u p1 p2 p3 p4 p5 = some (r, u1)) : Ct l yX9_adds cX9_adds 6 (some .int) (rmOf 4 97) D (tyL cI cZ cD) [.ref (A 0), .int p1, .int p2, .int p3, .int p4, .int p5] (wY A cI u) (some (.int r)) (wY A cI u1) := by
  refine Ct.ofW (by decide +kernel) (fun p e s m below meth c hC hI => ?_)
  obtain ⟨hx, hb, hml, hown, hr, hlk, hG⟩ := hC
  have hown : s.vm.findClass RX9 = some m.cls := hown
  have hl := lv_entry ([.ref (A 0), .int p1, .int p2, .int p3, .int p4, .int p5] : List Value) (n := 6) (Nat.le_of_ble_eq_true rfl)
  rw [lg_entry_eq]
  generalize (lg_sl ([.ref (A 0), .int p1, .int p2, .int p3, .int p4, .int p5] : List Value) ++ List.replicate (6 - (lg_sl ([.ref (A 0), .int p1, .int p2, .int p3, .int p4, .int p5] : List Value)).length) Slot.unset).toArray = ls at hl ⊢
  have hl : lv_has ls 6 [(0, .ref (A 0)), (1, .int p1), (2, .int p2), (3, .int p3), (4, .int p4), (5, .int p5)] := hl
  unfold X9_adds at hE
  refine lv_aload_n hx hb dX9_adds_0 rfl (lv_at hl 0 rfl) ?_
  obtain ⟨mu1, hc, hE⟩ := bd1_some hE
  refine xc_V0 (rest := []) (c_X9_save hc) mw_X9_save km_X9_115 hx hb hml hown hG hI xA_of (wG_atE (by omega) eY_0) rfl rfl ⟨Nat.le_of_ble_eq_true rfl, Nat.le_of_ble_eq_true rfl⟩ rfl hl.1 rfl (Nat.le_of_ble_eq_true rfl) dX9_adds_1 (fun H locs hI => ?_)
  refine lv_aload_n hx hb dX9_adds_4 rfl (lv_at hl 0 rfl) ?_
  refine lv_aload_n hx hb dX9_adds_5 rfl (lv_at hl 0 rfl) ?_
  refine lv_iload_n hx hb dX9_adds_6 rfl (lv_at hl 1 rfl) ?_
  refine lv_iload_n hx hb dX9_adds_7 rfl (lv_at hl 2 rfl) ?_
  refine lv_iload_n hx hb dX9_adds_8 rfl (lv_at hl 3 rfl) ?_
  refine lv_iload hx hb dX9_adds_9 (lv_at hl 4 rfl) ?_
  refine lv_iload hx hb dX9_adds_11 (lv_at hl 5 rfl) ?_
  obtain ⟨r2, mu3, hc, hE⟩ := bd2_some hE
  refine xc_V1 (rest := [.ref (A 0)]) (c_X9_add hc) mw_X9_add km_X9_118 hx hb hml hown hG hI xA_of (wG_atE (by omega) eY_0) rfl rfl ⟨Nat.le_of_ble_eq_true rfl, Nat.le_of_ble_eq_true rfl⟩ rfl hl.1 rfl (Nat.le_of_ble_eq_true rfl) dX9_adds_13 (fun H locs hI => ?_)
  obtain ⟨r4, mu5, hc, hE⟩ := bd2_some hE
  refine xc_V1 (rest := []) (c_X9_finish hc) mw_X9_finish km_X9_122 hx hb hml hown hG hI xA_of (wG_atE (by omega) eY_0) rfl rfl ⟨Nat.le_of_ble_eq_true rfl, Nat.le_of_ble_eq_true rfl⟩ rfl hl.1 rfl (Nat.le_of_ble_eq_true rfl) dX9_adds_16 (fun H locs hI => ?_)
  obtain ⟨rfl, rfl⟩ := sm2 hE
  exact xr_i hx hb hr hlk hG hI dX9_adds_19
def X9_moves (u : Mem) (p1 : Int32) (p2 : Int32) (p3 : Int32) (p4 : Int32) : Option (Int32 × Mem) :=
  (X9_save u : Option Mem).bind fun (mu1 : Mem) => bd2 (X9_move mu1 p1 p2 p3 p4) fun (r2 : Int32) (mu3 : Mem) => bd2 (X9_finish mu3 r2) fun (r4 : Int32) (mu5 : Mem) => some (r4, mu5)
set_option maxHeartbeats 4000000 in
set_option maxRecDepth 100000 in
theorem c_X9_moves {l : Launch} {D : va_G} {A : Nat → Nat} {cI cZ cD : ClassId} {u u1 : Mem} {p1 : Int32} {p2 : Int32} {p3 : Int32} {p4 : Int32} {r : Int32}  (hE : X9_moves u p1 p2 p3 p4 = some (r, u1)) : Ct l yX9_moves cX9_moves 5 (some .int) (rmOf 4 97) D (tyL cI cZ cD) [.ref (A 0), .int p1, .int p2, .int p3, .int p4] (wY A cI u) (some (.int r)) (wY A cI u1) := by
  refine Ct.ofW (by decide +kernel) (fun p e s m below meth c hC hI => ?_)
  obtain ⟨hx, hb, hml, hown, hr, hlk, hG⟩ := hC
  have hown : s.vm.findClass RX9 = some m.cls := hown
  have hl := lv_entry ([.ref (A 0), .int p1, .int p2, .int p3, .int p4] : List Value) (n := 5) (Nat.le_of_ble_eq_true rfl)
  rw [lg_entry_eq]
  generalize (lg_sl ([.ref (A 0), .int p1, .int p2, .int p3, .int p4] : List Value) ++ List.replicate (5 - (lg_sl ([.ref (A 0), .int p1, .int p2, .int p3, .int p4] : List Value)).length) Slot.unset).toArray = ls at hl ⊢
  have hl : lv_has ls 5 [(0, .ref (A 0)), (1, .int p1), (2, .int p2), (3, .int p3), (4, .int p4)] := hl
  unfold X9_moves at hE
  refine lv_aload_n hx hb dX9_moves_0 rfl (lv_at hl 0 rfl) ?_
  obtain ⟨mu1, hc, hE⟩ := bd1_some hE
  refine xc_V0 (rest := []) (c_X9_save hc) mw_X9_save km_X9_115 hx hb hml hown hG hI xA_of (wG_atE (by omega) eY_0) rfl rfl ⟨Nat.le_of_ble_eq_true rfl, Nat.le_of_ble_eq_true rfl⟩ rfl hl.1 rfl (Nat.le_of_ble_eq_true rfl) dX9_moves_1 (fun H locs hI => ?_)
  refine lv_aload_n hx hb dX9_moves_4 rfl (lv_at hl 0 rfl) ?_
  refine lv_aload_n hx hb dX9_moves_5 rfl (lv_at hl 0 rfl) ?_
  refine lv_iload_n hx hb dX9_moves_6 rfl (lv_at hl 1 rfl) ?_
  refine lv_iload_n hx hb dX9_moves_7 rfl (lv_at hl 2 rfl) ?_
  refine lv_iload_n hx hb dX9_moves_8 rfl (lv_at hl 3 rfl) ?_
  refine lv_iload hx hb dX9_moves_9 (lv_at hl 4 rfl) ?_
  obtain ⟨r2, mu3, hc, hE⟩ := bd2_some hE
  refine xc_V1 (rest := [.ref (A 0)]) (c_X9_move hc) mw_X9_move km_X9_125 hx hb hml hown hG hI xA_of (wG_atE (by omega) eY_0) rfl rfl ⟨Nat.le_of_ble_eq_true rfl, Nat.le_of_ble_eq_true rfl⟩ rfl hl.1 rfl (Nat.le_of_ble_eq_true rfl) dX9_moves_11 (fun H locs hI => ?_)
  obtain ⟨r4, mu5, hc, hE⟩ := bd2_some hE
  refine xc_V1 (rest := []) (c_X9_finish hc) mw_X9_finish km_X9_122 hx hb hml hown hG hI xA_of (wG_atE (by omega) eY_0) rfl rfl ⟨Nat.le_of_ble_eq_true rfl, Nat.le_of_ble_eq_true rfl⟩ rfl hl.1 rfl (Nat.le_of_ble_eq_true rfl) dX9_moves_14 (fun H locs hI => ?_)
  obtain ⟨rfl, rfl⟩ := sm2 hE
  exact xr_i hx hb hr hlk hG hI dX9_moves_17
def X9_renames (u : Mem) (p1 : Int32) (p2 : Int32) (p3 : Int32) : Option (Int32 × Mem) :=
  (X9_save u : Option Mem).bind fun (mu1 : Mem) => bd2 (X9_put mu1 p1 p2 32 p3) fun (r2 : Int32) (mu3 : Mem) => bd2 (X9_finish mu3 r2) fun (r4 : Int32) (mu5 : Mem) => some (r4, mu5)
set_option maxHeartbeats 4000000 in
set_option maxRecDepth 100000 in
theorem c_X9_renames {l : Launch} {D : va_G} {A : Nat → Nat} {cI cZ cD : ClassId} {u u1 : Mem} {p1 : Int32} {p2 : Int32} {p3 : Int32} {r : Int32}  (hE : X9_renames u p1 p2 p3 = some (r, u1)) : Ct l yX9_renames cX9_renames 4 (some .int) (rmOf 3 69) D (tyL cI cZ cD) [.ref (A 0), .int p1, .int p2, .int p3] (wY A cI u) (some (.int r)) (wY A cI u1) := by
  refine Ct.ofW (by decide +kernel) (fun p e s m below meth c hC hI => ?_)
  obtain ⟨hx, hb, hml, hown, hr, hlk, hG⟩ := hC
  have hown : s.vm.findClass RX9 = some m.cls := hown
  have hl := lv_entry ([.ref (A 0), .int p1, .int p2, .int p3] : List Value) (n := 4) (Nat.le_of_ble_eq_true rfl)
  rw [lg_entry_eq]
  generalize (lg_sl ([.ref (A 0), .int p1, .int p2, .int p3] : List Value) ++ List.replicate (4 - (lg_sl ([.ref (A 0), .int p1, .int p2, .int p3] : List Value)).length) Slot.unset).toArray = ls at hl ⊢
  have hl : lv_has ls 4 [(0, .ref (A 0)), (1, .int p1), (2, .int p2), (3, .int p3)] := hl
  unfold X9_renames at hE
  refine lv_aload_n hx hb dX9_renames_0 rfl (lv_at hl 0 rfl) ?_
  obtain ⟨mu1, hc, hE⟩ := bd1_some hE
  refine xc_V0 (rest := []) (c_X9_save hc) mw_X9_save km_X9_115 hx hb hml hown hG hI xA_of (wG_atE (by omega) eY_0) rfl rfl ⟨Nat.le_of_ble_eq_true rfl, Nat.le_of_ble_eq_true rfl⟩ rfl hl.1 rfl (Nat.le_of_ble_eq_true rfl) dX9_renames_1 (fun H locs hI => ?_)
  refine lv_aload_n hx hb dX9_renames_4 rfl (lv_at hl 0 rfl) ?_
  refine lv_aload_n hx hb dX9_renames_5 rfl (lv_at hl 0 rfl) ?_
  refine lv_iload_n hx hb dX9_renames_6 rfl (lv_at hl 1 rfl) ?_
  refine lv_iload_n hx hb dX9_renames_7 rfl (lv_at hl 2 rfl) ?_
  refine lv_bipush (v := 32) hx hb dX9_renames_8 (by decide) ?_
  refine lv_iload_n hx hb dX9_renames_10 rfl (lv_at hl 3 rfl) ?_
  obtain ⟨r2, mu3, hc, hE⟩ := bd2_some hE
  refine xc_V1 (rest := [.ref (A 0)]) (c_X9_put hc) mw_X9_put km_X9_129 hx hb hml hown hG hI xA_of (wG_atE (by omega) eY_0) rfl rfl ⟨Nat.le_of_ble_eq_true rfl, Nat.le_of_ble_eq_true rfl⟩ rfl hl.1 rfl (Nat.le_of_ble_eq_true rfl) dX9_renames_11 (fun H locs hI => ?_)
  obtain ⟨r4, mu5, hc, hE⟩ := bd2_some hE
  refine xc_V1 (rest := []) (c_X9_finish hc) mw_X9_finish km_X9_122 hx hb hml hown hG hI xA_of (wG_atE (by omega) eY_0) rfl rfl ⟨Nat.le_of_ble_eq_true rfl, Nat.le_of_ble_eq_true rfl⟩ rfl hl.1 rfl (Nat.le_of_ble_eq_true rfl) dX9_renames_14 (fun H locs hI => ?_)
  obtain ⟨rfl, rfl⟩ := sm2 hE
  exact xr_i hx hb hr hlk hG hI dX9_renames_17
def X9_edits (u : Mem) (p1 : Int32) (p2 : Int32) (p3 : Int32) : Option (Int32 × Mem) :=
  (X9_save u : Option Mem).bind fun (mu1 : Mem) => bd2 (X9_put mu1 p1 p2 48 p3) fun (r2 : Int32) (mu3 : Mem) => bd2 (X9_finish mu3 r2) fun (r4 : Int32) (mu5 : Mem) => some (r4, mu5)
set_option maxHeartbeats 4000000 in
set_option maxRecDepth 100000 in
theorem c_X9_edits {l : Launch} {D : va_G} {A : Nat → Nat} {cI cZ cD : ClassId} {u u1 : Mem} {p1 : Int32} {p2 : Int32} {p3 : Int32} {r : Int32}  (hE : X9_edits u p1 p2 p3 = some (r, u1)) : Ct l yX9_edits cX9_edits 4 (some .int) (rmOf 3 69) D (tyL cI cZ cD) [.ref (A 0), .int p1, .int p2, .int p3] (wY A cI u) (some (.int r)) (wY A cI u1) := by
  refine Ct.ofW (by decide +kernel) (fun p e s m below meth c hC hI => ?_)
  obtain ⟨hx, hb, hml, hown, hr, hlk, hG⟩ := hC
  have hown : s.vm.findClass RX9 = some m.cls := hown
  have hl := lv_entry ([.ref (A 0), .int p1, .int p2, .int p3] : List Value) (n := 4) (Nat.le_of_ble_eq_true rfl)
  rw [lg_entry_eq]
  generalize (lg_sl ([.ref (A 0), .int p1, .int p2, .int p3] : List Value) ++ List.replicate (4 - (lg_sl ([.ref (A 0), .int p1, .int p2, .int p3] : List Value)).length) Slot.unset).toArray = ls at hl ⊢
  have hl : lv_has ls 4 [(0, .ref (A 0)), (1, .int p1), (2, .int p2), (3, .int p3)] := hl
  unfold X9_edits at hE
  refine lv_aload_n hx hb dX9_edits_0 rfl (lv_at hl 0 rfl) ?_
  obtain ⟨mu1, hc, hE⟩ := bd1_some hE
  refine xc_V0 (rest := []) (c_X9_save hc) mw_X9_save km_X9_115 hx hb hml hown hG hI xA_of (wG_atE (by omega) eY_0) rfl rfl ⟨Nat.le_of_ble_eq_true rfl, Nat.le_of_ble_eq_true rfl⟩ rfl hl.1 rfl (Nat.le_of_ble_eq_true rfl) dX9_edits_1 (fun H locs hI => ?_)
  refine lv_aload_n hx hb dX9_edits_4 rfl (lv_at hl 0 rfl) ?_
  refine lv_aload_n hx hb dX9_edits_5 rfl (lv_at hl 0 rfl) ?_
  refine lv_iload_n hx hb dX9_edits_6 rfl (lv_at hl 1 rfl) ?_
  refine lv_iload_n hx hb dX9_edits_7 rfl (lv_at hl 2 rfl) ?_
  refine lv_bipush (v := 48) hx hb dX9_edits_8 (by decide) ?_
  refine lv_iload_n hx hb dX9_edits_10 rfl (lv_at hl 3 rfl) ?_
  obtain ⟨r2, mu3, hc, hE⟩ := bd2_some hE
  refine xc_V1 (rest := [.ref (A 0)]) (c_X9_put hc) mw_X9_put km_X9_129 hx hb hml hown hG hI xA_of (wG_atE (by omega) eY_0) rfl rfl ⟨Nat.le_of_ble_eq_true rfl, Nat.le_of_ble_eq_true rfl⟩ rfl hl.1 rfl (Nat.le_of_ble_eq_true rfl) dX9_edits_11 (fun H locs hI => ?_)
  obtain ⟨r4, mu5, hc, hE⟩ := bd2_some hE
  refine xc_V1 (rest := []) (c_X9_finish hc) mw_X9_finish km_X9_122 hx hb hml hown hG hI xA_of (wG_atE (by omega) eY_0) rfl rfl ⟨Nat.le_of_ble_eq_true rfl, Nat.le_of_ble_eq_true rfl⟩ rfl hl.1 rfl (Nat.le_of_ble_eq_true rfl) dX9_edits_14 (fun H locs hI => ?_)
  obtain ⟨rfl, rfl⟩ := sm2 hE
  exact xr_i hx hb hr hlk hG hI dX9_edits_17
def X9_deletes (u : Mem) (p1 : Int32) (p2 : Int32) : Option (Int32 × Mem) :=
  (X9_save u : Option Mem).bind fun (mu1 : Mem) => bd2 (X9_delete mu1 p1 p2) fun (r2 : Int32) (mu3 : Mem) => bd2 (X9_finish mu3 r2) fun (r4 : Int32) (mu5 : Mem) => some (r4, mu5)
set_option maxHeartbeats 4000000 in
set_option maxRecDepth 100000 in
theorem c_X9_deletes {l : Launch} {D : va_G} {A : Nat → Nat} {cI cZ cD : ClassId} {u u1 : Mem} {p1 : Int32} {p2 : Int32} {r : Int32}  (hE : X9_deletes u p1 p2 = some (r, u1)) : Ct l yX9_deletes cX9_deletes 3 (some .int) (rmOf 4 95) D (tyL cI cZ cD) [.ref (A 0), .int p1, .int p2] (wY A cI u) (some (.int r)) (wY A cI u1) := by
  refine Ct.ofW (by decide +kernel) (fun p e s m below meth c hC hI => ?_)
  obtain ⟨hx, hb, hml, hown, hr, hlk, hG⟩ := hC
  have hown : s.vm.findClass RX9 = some m.cls := hown
  have hl := lv_entry ([.ref (A 0), .int p1, .int p2] : List Value) (n := 3) (Nat.le_of_ble_eq_true rfl)
  rw [lg_entry_eq]
  generalize (lg_sl ([.ref (A 0), .int p1, .int p2] : List Value) ++ List.replicate (3 - (lg_sl ([.ref (A 0), .int p1, .int p2] : List Value)).length) Slot.unset).toArray = ls at hl ⊢
  have hl : lv_has ls 3 [(0, .ref (A 0)), (1, .int p1), (2, .int p2)] := hl
  unfold X9_deletes at hE
  refine lv_aload_n hx hb dX9_deletes_0 rfl (lv_at hl 0 rfl) ?_
  obtain ⟨mu1, hc, hE⟩ := bd1_some hE
  refine xc_V0 (rest := []) (c_X9_save hc) mw_X9_save km_X9_115 hx hb hml hown hG hI xA_of (wG_atE (by omega) eY_0) rfl rfl ⟨Nat.le_of_ble_eq_true rfl, Nat.le_of_ble_eq_true rfl⟩ rfl hl.1 rfl (Nat.le_of_ble_eq_true rfl) dX9_deletes_1 (fun H locs hI => ?_)
  refine lv_aload_n hx hb dX9_deletes_4 rfl (lv_at hl 0 rfl) ?_
  refine lv_aload_n hx hb dX9_deletes_5 rfl (lv_at hl 0 rfl) ?_
  refine lv_iload_n hx hb dX9_deletes_6 rfl (lv_at hl 1 rfl) ?_
  refine lv_iload_n hx hb dX9_deletes_7 rfl (lv_at hl 2 rfl) ?_
  obtain ⟨r2, mu3, hc, hE⟩ := bd2_some hE
  refine xc_V1 (rest := [.ref (A 0)]) (c_X9_delete hc) mw_X9_delete km_X9_132 hx hb hml hown hG hI xA_of (wG_atE (by omega) eY_0) rfl rfl ⟨Nat.le_of_ble_eq_true rfl, Nat.le_of_ble_eq_true rfl⟩ rfl hl.1 rfl (Nat.le_of_ble_eq_true rfl) dX9_deletes_8 (fun H locs hI => ?_)
  obtain ⟨r4, mu5, hc, hE⟩ := bd2_some hE
  refine xc_V1 (rest := []) (c_X9_finish hc) mw_X9_finish km_X9_122 hx hb hml hown hG hI xA_of (wG_atE (by omega) eY_0) rfl rfl ⟨Nat.le_of_ble_eq_true rfl, Nat.le_of_ble_eq_true rfl⟩ rfl hl.1 rfl (Nat.le_of_ble_eq_true rfl) dX9_deletes_11 (fun H locs hI => ?_)
  obtain ⟨rfl, rfl⟩ := sm2 hE
  exact xr_i hx hb hr hlk hG hI dX9_deletes_14
def X9_forks (u : Mem) : Option (Int32 × Mem) :=
  (X9_save u : Option Mem).bind fun (mu1 : Mem) => bd2 (X9_fork mu1) fun (r2 : Int32) (mu3 : Mem) => bd2 (X9_finish mu3 r2) fun (r4 : Int32) (mu5 : Mem) => some (r4, mu5)
set_option maxHeartbeats 4000000 in
set_option maxRecDepth 100000 in
theorem c_X9_forks {l : Launch} {D : va_G} {A : Nat → Nat} {cI cZ cD : ClassId} {u u1 : Mem} {r : Int32}  (hE : X9_forks u = some (r, u1)) : Ct l yX9_forks cX9_forks 1 (some .int) (rmOf 3 65) D (tyL cI cZ cD) [.ref (A 0)] (wY A cI u) (some (.int r)) (wY A cI u1) := by
  refine Ct.ofW (by decide +kernel) (fun p e s m below meth c hC hI => ?_)
  obtain ⟨hx, hb, hml, hown, hr, hlk, hG⟩ := hC
  have hown : s.vm.findClass RX9 = some m.cls := hown
  have hl := lv_entry ([.ref (A 0)] : List Value) (n := 1) (Nat.le_of_ble_eq_true rfl)
  rw [lg_entry_eq]
  generalize (lg_sl ([.ref (A 0)] : List Value) ++ List.replicate (1 - (lg_sl ([.ref (A 0)] : List Value)).length) Slot.unset).toArray = ls at hl ⊢
  have hl : lv_has ls 1 [(0, .ref (A 0))] := hl
  unfold X9_forks at hE
  refine lv_aload_n hx hb dX9_forks_0 rfl (lv_at hl 0 rfl) ?_
  obtain ⟨mu1, hc, hE⟩ := bd1_some hE
  refine xc_V0 (rest := []) (c_X9_save hc) mw_X9_save km_X9_115 hx hb hml hown hG hI xA_of (wG_atE (by omega) eY_0) rfl rfl ⟨Nat.le_of_ble_eq_true rfl, Nat.le_of_ble_eq_true rfl⟩ rfl hl.1 rfl (Nat.le_of_ble_eq_true rfl) dX9_forks_1 (fun H locs hI => ?_)
  refine lv_aload_n hx hb dX9_forks_4 rfl (lv_at hl 0 rfl) ?_
  refine lv_aload_n hx hb dX9_forks_5 rfl (lv_at hl 0 rfl) ?_
  obtain ⟨r2, mu3, hc, hE⟩ := bd2_some hE
  refine xc_V1 (rest := [.ref (A 0)]) (c_X9_fork hc) mw_X9_fork km_X9_135 hx hb hml hown hG hI xA_of (wG_atE (by omega) eY_0) rfl rfl ⟨Nat.le_of_ble_eq_true rfl, Nat.le_of_ble_eq_true rfl⟩ rfl hl.1 rfl (Nat.le_of_ble_eq_true rfl) dX9_forks_6 (fun H locs hI => ?_)
  obtain ⟨r4, mu5, hc, hE⟩ := bd2_some hE
  refine xc_V1 (rest := []) (c_X9_finish hc) mw_X9_finish km_X9_122 hx hb hml hown hG hI xA_of (wG_atE (by omega) eY_0) rfl rfl ⟨Nat.le_of_ble_eq_true rfl, Nat.le_of_ble_eq_true rfl⟩ rfl hl.1 rfl (Nat.le_of_ble_eq_true rfl) dX9_forks_9 (fun H locs hI => ?_)
  obtain ⟨rfl, rfl⟩ := sm2 hE
  exact xr_i hx hb hr hlk hG hI dX9_forks_12
def X9_prefers (u : Mem) (p1 : Int32) : Option (Int32 × Mem) :=
  (X9_save u : Option Mem).bind fun (mu1 : Mem) => bd2 (X9_prefer mu1 p1) fun (r2 : Int32) (mu3 : Mem) => bd2 (X9_finish mu3 r2) fun (r4 : Int32) (mu5 : Mem) => some (r4, mu5)
set_option maxHeartbeats 4000000 in
set_option maxRecDepth 100000 in
theorem c_X9_prefers {l : Launch} {D : va_G} {A : Nat → Nat} {cI cZ cD : ClassId} {u u1 : Mem} {p1 : Int32} {r : Int32}  (hE : X9_prefers u p1 = some (r, u1)) : Ct l yX9_prefers cX9_prefers 2 (some .int) (rmOf 2 46) D (tyL cI cZ cD) [.ref (A 0), .int p1] (wY A cI u) (some (.int r)) (wY A cI u1) := by
  refine Ct.ofW (by decide +kernel) (fun p e s m below meth c hC hI => ?_)
  obtain ⟨hx, hb, hml, hown, hr, hlk, hG⟩ := hC
  have hown : s.vm.findClass RX9 = some m.cls := hown
  have hl := lv_entry ([.ref (A 0), .int p1] : List Value) (n := 2) (Nat.le_of_ble_eq_true rfl)
  rw [lg_entry_eq]
  generalize (lg_sl ([.ref (A 0), .int p1] : List Value) ++ List.replicate (2 - (lg_sl ([.ref (A 0), .int p1] : List Value)).length) Slot.unset).toArray = ls at hl ⊢
  have hl : lv_has ls 2 [(0, .ref (A 0)), (1, .int p1)] := hl
  unfold X9_prefers at hE
  refine lv_aload_n hx hb dX9_prefers_0 rfl (lv_at hl 0 rfl) ?_
  obtain ⟨mu1, hc, hE⟩ := bd1_some hE
  refine xc_V0 (rest := []) (c_X9_save hc) mw_X9_save km_X9_115 hx hb hml hown hG hI xA_of (wG_atE (by omega) eY_0) rfl rfl ⟨Nat.le_of_ble_eq_true rfl, Nat.le_of_ble_eq_true rfl⟩ rfl hl.1 rfl (Nat.le_of_ble_eq_true rfl) dX9_prefers_1 (fun H locs hI => ?_)
  refine lv_aload_n hx hb dX9_prefers_4 rfl (lv_at hl 0 rfl) ?_
  refine lv_aload_n hx hb dX9_prefers_5 rfl (lv_at hl 0 rfl) ?_
  refine lv_iload_n hx hb dX9_prefers_6 rfl (lv_at hl 1 rfl) ?_
  obtain ⟨r2, mu3, hc, hE⟩ := bd2_some hE
  refine xc_V1 (rest := [.ref (A 0)]) (c_X9_prefer hc) mw_X9_prefer km_X9_139 hx hb hml hown hG hI xA_of (wG_atE (by omega) eY_0) rfl rfl ⟨Nat.le_of_ble_eq_true rfl, Nat.le_of_ble_eq_true rfl⟩ rfl hl.1 rfl (Nat.le_of_ble_eq_true rfl) dX9_prefers_7 (fun H locs hI => ?_)
  obtain ⟨r4, mu5, hc, hE⟩ := bd2_some hE
  refine xc_V1 (rest := []) (c_X9_finish hc) mw_X9_finish km_X9_122 hx hb hml hown hG hI xA_of (wG_atE (by omega) eY_0) rfl rfl ⟨Nat.le_of_ble_eq_true rfl, Nat.le_of_ble_eq_true rfl⟩ rfl hl.1 rfl (Nat.le_of_ble_eq_true rfl) dX9_prefers_10 (fun H locs hI => ?_)
  obtain ⟨rfl, rfl⟩ := sm2 hE
  exact xr_i hx hb hr hlk hG hI dX9_prefers_13
def X9_isChanged_L54 (p1 : Int32) (p2 : Int32) (u : Mem) : Nat → Int32 → Int32 → Option (Int32)
  | 0, _, _ => none
  | n54 + 1, x5, x6 =>
    (if 16 ≤ x6 then some x5 else (if x5 = 0 then (X9_parentOf u p1 x6 : Option Int32).bind fun (r10 : Int32) => (if r10 = p2 then (X9_parentOf u 0 x6 : Option Int32).bind fun (r11 : Int32) => (if r11 = p2 then X9_isChanged_L54 p1 p2 u n54 0 (x6 + 1) else X9_isChanged_L54 p1 p2 u n54 1 (x6 + 1)) else X9_isChanged_L54 p1 p2 u n54 0 (x6 + 1)) else X9_isChanged_L54 p1 p2 u n54 1 (x6 + 1)))
def X9_isChanged (u : Mem) (p1 : Int32) (p2 : Int32) : Option (Bool) :=
  (X9_parentOf u p1 p2 : Option Int32).bind fun (r1 : Int32) => (X9_parentOf u 0 p2 : Option Int32).bind fun (r2 : Int32) => ((if r1 = r2 then (X9_nameOf u p1 p2 : Option Int32).bind fun (r12 : Int32) => (X9_nameOf u 0 p2 : Option Int32).bind fun (r13 : Int32) => (if r12 = r13 then (X9_textOf u p1 p2 : Option Int32).bind fun (r14 : Int32) => (X9_textOf u 0 p2 : Option Int32).bind fun (r15 : Int32) => (if r14 = r15 then some 0 else some 1) else some 1) else some 1) : Option Int32).bind fun (x3 : Int32) => (X9_isChanged_L54 p1 p2 u fu x3 1 : Option Int32).bind fun (x7 : Int32) => (zg x7).bind fun z9 => some z9
set_option maxHeartbeats 4000000 in
set_option maxRecDepth 100000 in
theorem c_X9_isChanged {l : Launch} {D : va_G} {A : Nat → Nat} {cI cZ cD : ClassId} {u : Mem} {p1 : Int32} {p2 : Int32} {r : Bool}  (hE : X9_isChanged u p1 p2 = some (r)) : Ct l yX9_isChanged cX9_isChanged 5 (some .boolean) (rmOf 1 22) D (tyL cI cZ cD) [.ref (A 0), .int p1, .int p2] (wY A cI u) (some (.int (b2i r))) (wY A cI u) := by
  refine Ct.ofW (by decide +kernel) (fun p e s m below meth c hC hI => ?_)
  obtain ⟨hx, hb, hml, hown, hr, hlk, hG⟩ := hC
  have hown : s.vm.findClass RX9 = some m.cls := hown
  have hl := lv_entry ([.ref (A 0), .int p1, .int p2] : List Value) (n := 5) (Nat.le_of_ble_eq_true rfl)
  rw [lg_entry_eq]
  generalize (lg_sl ([.ref (A 0), .int p1, .int p2] : List Value) ++ List.replicate (5 - (lg_sl ([.ref (A 0), .int p1, .int p2] : List Value)).length) Slot.unset).toArray = ls at hl ⊢
  have hl : lv_has ls 5 [(0, .ref (A 0)), (1, .int p1), (2, .int p2)] := hl
  unfold X9_isChanged at hE
  refine lv_aload_n hx hb dX9_isChanged_0 rfl (lv_at hl 0 rfl) ?_
  refine lv_iload_n hx hb dX9_isChanged_1 rfl (lv_at hl 1 rfl) ?_
  refine lv_iload_n hx hb dX9_isChanged_2 rfl (lv_at hl 2 rfl) ?_
  obtain ⟨r1, hc, hE⟩ := bd1_some hE
  refine xc_V1 (rest := []) (c_X9_parentOf hc) mw_X9_parentOf km_X9_76 hx hb hml hown hG hI xA_of (wG_atE (by omega) eY_0) rfl rfl ⟨Nat.le_of_ble_eq_true rfl, Nat.le_of_ble_eq_true rfl⟩ rfl hl.1 rfl (Nat.le_of_ble_eq_true rfl) dX9_isChanged_3 (fun H locs hI => ?_)
  refine lv_aload_n hx hb dX9_isChanged_6 rfl (lv_at hl 0 rfl) ?_
  refine lv_iconst (v := 0) hx hb dX9_isChanged_7 (by decide) ?_
  refine lv_iload_n hx hb dX9_isChanged_8 rfl (lv_at hl 2 rfl) ?_
  obtain ⟨r2, hc, hE⟩ := bd1_some hE
  refine xc_V1 (rest := [.int r1]) (c_X9_parentOf hc) mw_X9_parentOf km_X9_76 hx hb hml hown hG hI xA_of (wG_atE (by omega) eY_0) rfl rfl ⟨Nat.le_of_ble_eq_true rfl, Nat.le_of_ble_eq_true rfl⟩ rfl hl.1 rfl (Nat.le_of_ble_eq_true rfl) dX9_isChanged_9 (fun H locs hI => ?_)
  obtain ⟨x3, hZ, hE⟩ := bd1_some hE
  have hJ50_3 : ∀ (H : Heap) (locs : List Loc) (ls : Array Slot), xI D (va_A (wY A cI u) s.heap.size) s.heap (wY A cI u) H locs → lv_has ls 5 [(0, .ref (A 0)), (1, .int p1), (2, .int p2)] → W p l e (rmOf 1 22) s m ([.ref (A 0), .int p1, .int p2] : List Value).toArray below meth c H locs 0 0 (xQ D (tyL cI cZ cD) below ([.ref (A 0), .int p1, .int p2] : List Value).toArray s (wY A cI u) (some (.int (b2i r))) (wY A cI u)) (F0 m 50 ls [.int x3]) := by
    intro H locs ls hI hl
    clear hZ
    refine lv_istore_n (lv' := [(3, .int x3), (0, .ref (A 0)), (1, .int p1), (2, .int p2)]) hx hb dX9_isChanged_50 rfl hl (by decide) rfl (fun ls hl => ?_)
    refine lv_iconst (v := 1) hx hb dX9_isChanged_51 (by decide) ?_
    refine lv_istore (lv' := [(4, .int 1), (3, .int x3), (0, .ref (A 0)), (1, .int p1), (2, .int p2)]) hx hb dX9_isChanged_52 hl (by decide) rfl (fun ls hl => ?_)
    obtain ⟨x7, hZ, hE⟩ := bd1_some hE
    have hX54_7 : ∀ (H : Heap) (locs : List Loc) (ls : Array Slot), xI D (va_A (wY A cI u) s.heap.size) s.heap (wY A cI u) H locs → lv_has ls 5 [(3, .int x7)] → W p l e (rmOf 1 22) s m ([.ref (A 0), .int p1, .int p2] : List Value).toArray below meth c H locs 0 0 (xQ D (tyL cI cZ cD) below ([.ref (A 0), .int p1, .int p2] : List Value).toArray s (wY A cI u) (some (.int (b2i r))) (wY A cI u)) (F0 m 99 ls []) := by
      intro H locs ls hI hl
      clear hZ
      refine lv_iload_n hx hb dX9_isChanged_99 rfl (lv_at hl 0 rfl) ?_
      obtain ⟨z9, hz, hE⟩ := bd1_some hE
      obtain rfl := sm1 hE
      exact xr_z (zg_some hz) hx hb hr hlk hG hI dX9_isChanged_100
    replace hE := hZ
    clear hZ
    have hL54 : ∀ (n54 : Nat) (x5 : Int32) (x6 : Int32) (H : Heap) (locs : List Loc) (ls : Array Slot), X9_isChanged_L54 p1 p2 u n54 x5 x6 = some x7 → xI D (va_A (wY A cI u) s.heap.size) s.heap (wY A cI u) H locs → lv_has ls 5 [(0, .ref (A 0)), (1, .int p1), (2, .int p2), (3, .int x5), (4, .int x6)] → W p l e (rmOf 1 22) s m ([.ref (A 0), .int p1, .int p2] : List Value).toArray below meth c H locs 0 0 (xQ D (tyL cI cZ cD) below ([.ref (A 0), .int p1, .int p2] : List Value).toArray s (wY A cI u) (some (.int (b2i r))) (wY A cI u)) (F0 m 54 ls []) := by
      intro n54
      induction n54 with
      | zero =>
        intro x5 x6 H locs ls hE
        exact absurd hE (by simp [X9_isChanged_L54])
      | succ n54 ih54 =>
        intro x5 x6 H locs ls hE hI hl
        rw [X9_isChanged_L54] at hE
        refine lv_iload hx hb dX9_isChanged_54 (lv_at hl 4 rfl) ?_
        refine lv_bipush (v := 16) hx hb dX9_isChanged_56 (by decide) ?_
        refine lv_icmp_ge (tgt := 99) hx hb dX9_isChanged_58 (by decide) (fun c58 => ?_) (fun c58 => ?_)
        · rw [if_pos c58] at hE
          obtain rfl := sm1 hE
          exact hX54_7 _ _ _ hI (lv_sub hl [3] rfl)
        · rw [if_neg c58] at hE
          refine lv_iload_n hx hb dX9_isChanged_61 rfl (lv_at hl 3 rfl) ?_
          refine lv_if_ne (tgt := 87) hx hb dX9_isChanged_62 (by decide) (fun c62 => ?_) (fun c62 => ?_)
          · rw [if_neg c62] at hE
            refine lv_iconst (v := 1) hx hb dX9_isChanged_87 (by decide) ?_
            refine lv_goto (tgt := 92) hx hb dX9_isChanged_88 (by decide) ?_
            refine lv_istore_n (lv' := [(3, .int 1), (0, .ref (A 0)), (1, .int p1), (2, .int p2), (4, .int x6)]) hx hb dX9_isChanged_92 rfl hl (by decide) rfl (fun ls hl => ?_)
            refine lv_iinc (v := x6 + 1) (lv' := [(4, .int (x6 + 1)), (3, .int 1), (0, .ref (A 0)), (1, .int p1), (2, .int p2)]) hx hb dX9_isChanged_93 hl (k := 4) rfl rfl (by decide) rfl (fun ls hl => ?_)
            refine lv_goto (tgt := 54) hx hb dX9_isChanged_96 (by decide) ?_
            exact ih54 _ _ _ _ _ hE hI (lv_sub hl [2, 3, 4, 1, 0] rfl)
          · rw [if_pos c62] at hE
            refine lv_aload_n hx hb dX9_isChanged_65 rfl (lv_at hl 0 rfl) ?_
            refine lv_iload_n hx hb dX9_isChanged_66 rfl (lv_at hl 1 rfl) ?_
            refine lv_iload hx hb dX9_isChanged_67 (lv_at hl 4 rfl) ?_
            obtain ⟨r10, hc, hE⟩ := bd1_some hE
            refine xc_V1 (rest := []) (c_X9_parentOf hc) mw_X9_parentOf km_X9_76 hx hb hml hown hG hI xA_of (wG_atE (by omega) eY_0) rfl rfl ⟨Nat.le_of_ble_eq_true rfl, Nat.le_of_ble_eq_true rfl⟩ rfl hl.1 rfl (Nat.le_of_ble_eq_true rfl) dX9_isChanged_69 (fun H locs hI => ?_)
            refine lv_iload_n hx hb dX9_isChanged_72 rfl (lv_at hl 2 rfl) ?_
            refine lv_icmp_ne (tgt := 91) hx hb dX9_isChanged_73 (by decide) (fun c73 => ?_) (fun c73 => ?_)
            · rw [if_neg c73] at hE
              refine lv_iconst (v := 0) hx hb dX9_isChanged_91 (by decide) ?_
              refine lv_istore_n (lv' := [(3, .int 0), (0, .ref (A 0)), (1, .int p1), (2, .int p2), (4, .int x6)]) hx hb dX9_isChanged_92 rfl hl (by decide) rfl (fun ls hl => ?_)
              refine lv_iinc (v := x6 + 1) (lv' := [(4, .int (x6 + 1)), (3, .int 0), (0, .ref (A 0)), (1, .int p1), (2, .int p2)]) hx hb dX9_isChanged_93 hl (k := 4) rfl rfl (by decide) rfl (fun ls hl => ?_)
              refine lv_goto (tgt := 54) hx hb dX9_isChanged_96 (by decide) ?_
              exact ih54 _ _ _ _ _ hE hI (lv_sub hl [2, 3, 4, 1, 0] rfl)
            · rw [if_pos c73] at hE
              refine lv_aload_n hx hb dX9_isChanged_76 rfl (lv_at hl 0 rfl) ?_
              refine lv_iconst (v := 0) hx hb dX9_isChanged_77 (by decide) ?_
              refine lv_iload hx hb dX9_isChanged_78 (lv_at hl 4 rfl) ?_
              obtain ⟨r11, hc, hE⟩ := bd1_some hE
              refine xc_V1 (rest := []) (c_X9_parentOf hc) mw_X9_parentOf km_X9_76 hx hb hml hown hG hI xA_of (wG_atE (by omega) eY_0) rfl rfl ⟨Nat.le_of_ble_eq_true rfl, Nat.le_of_ble_eq_true rfl⟩ rfl hl.1 rfl (Nat.le_of_ble_eq_true rfl) dX9_isChanged_80 (fun H locs hI => ?_)
              refine lv_iload_n hx hb dX9_isChanged_83 rfl (lv_at hl 2 rfl) ?_
              refine lv_icmp_eq (tgt := 91) hx hb dX9_isChanged_84 (by decide) (fun c84 => ?_) (fun c84 => ?_)
              · rw [if_pos c84] at hE
                refine lv_iconst (v := 0) hx hb dX9_isChanged_91 (by decide) ?_
                refine lv_istore_n (lv' := [(3, .int 0), (0, .ref (A 0)), (1, .int p1), (2, .int p2), (4, .int x6)]) hx hb dX9_isChanged_92 rfl hl (by decide) rfl (fun ls hl => ?_)
                refine lv_iinc (v := x6 + 1) (lv' := [(4, .int (x6 + 1)), (3, .int 0), (0, .ref (A 0)), (1, .int p1), (2, .int p2)]) hx hb dX9_isChanged_93 hl (k := 4) rfl rfl (by decide) rfl (fun ls hl => ?_)
                refine lv_goto (tgt := 54) hx hb dX9_isChanged_96 (by decide) ?_
                exact ih54 _ _ _ _ _ hE hI (lv_sub hl [2, 3, 4, 1, 0] rfl)
              · rw [if_neg c84] at hE
                refine lv_iconst (v := 1) hx hb dX9_isChanged_87 (by decide) ?_
                refine lv_goto (tgt := 92) hx hb dX9_isChanged_88 (by decide) ?_
                refine lv_istore_n (lv' := [(3, .int 1), (0, .ref (A 0)), (1, .int p1), (2, .int p2), (4, .int x6)]) hx hb dX9_isChanged_92 rfl hl (by decide) rfl (fun ls hl => ?_)
                refine lv_iinc (v := x6 + 1) (lv' := [(4, .int (x6 + 1)), (3, .int 1), (0, .ref (A 0)), (1, .int p1), (2, .int p2)]) hx hb dX9_isChanged_93 hl (k := 4) rfl rfl (by decide) rfl (fun ls hl => ?_)
                refine lv_goto (tgt := 54) hx hb dX9_isChanged_96 (by decide) ?_
                exact ih54 _ _ _ _ _ hE hI (lv_sub hl [2, 3, 4, 1, 0] rfl)
    exact hL54 _ _ _ _ _ _ hE hI (lv_sub hl [2, 3, 4, 1, 0] rfl)
  replace hE := hZ
  clear hZ
  refine lv_icmp_ne (tgt := 45) hx hb dX9_isChanged_12 (by decide) (fun c12 => ?_) (fun c12 => ?_)
  · rw [if_neg c12] at hE
    refine lv_iconst (v := 1) hx hb dX9_isChanged_45 (by decide) ?_
    refine lv_goto (tgt := 50) hx hb dX9_isChanged_46 (by decide) ?_
    obtain rfl := sm1 hE
    exact hJ50_3 _ _ _ hI (lv_sub hl [0, 1, 2] rfl)
  · rw [if_pos c12] at hE
    refine lv_aload_n hx hb dX9_isChanged_15 rfl (lv_at hl 0 rfl) ?_
    refine lv_iload_n hx hb dX9_isChanged_16 rfl (lv_at hl 1 rfl) ?_
    refine lv_iload_n hx hb dX9_isChanged_17 rfl (lv_at hl 2 rfl) ?_
    obtain ⟨r12, hc, hE⟩ := bd1_some hE
    refine xc_V1 (rest := []) (c_X9_nameOf hc) mw_X9_nameOf km_X9_148 hx hb hml hown hG hI xA_of (wG_atE (by omega) eY_0) rfl rfl ⟨Nat.le_of_ble_eq_true rfl, Nat.le_of_ble_eq_true rfl⟩ rfl hl.1 rfl (Nat.le_of_ble_eq_true rfl) dX9_isChanged_18 (fun H locs hI => ?_)
    refine lv_aload_n hx hb dX9_isChanged_21 rfl (lv_at hl 0 rfl) ?_
    refine lv_iconst (v := 0) hx hb dX9_isChanged_22 (by decide) ?_
    refine lv_iload_n hx hb dX9_isChanged_23 rfl (lv_at hl 2 rfl) ?_
    obtain ⟨r13, hc, hE⟩ := bd1_some hE
    refine xc_V1 (rest := [.int r12]) (c_X9_nameOf hc) mw_X9_nameOf km_X9_148 hx hb hml hown hG hI xA_of (wG_atE (by omega) eY_0) rfl rfl ⟨Nat.le_of_ble_eq_true rfl, Nat.le_of_ble_eq_true rfl⟩ rfl hl.1 rfl (Nat.le_of_ble_eq_true rfl) dX9_isChanged_24 (fun H locs hI => ?_)
    refine lv_icmp_ne (tgt := 45) hx hb dX9_isChanged_27 (by decide) (fun c27 => ?_) (fun c27 => ?_)
    · rw [if_neg c27] at hE
      refine lv_iconst (v := 1) hx hb dX9_isChanged_45 (by decide) ?_
      refine lv_goto (tgt := 50) hx hb dX9_isChanged_46 (by decide) ?_
      obtain rfl := sm1 hE
      exact hJ50_3 _ _ _ hI (lv_sub hl [0, 1, 2] rfl)
    · rw [if_pos c27] at hE
      refine lv_aload_n hx hb dX9_isChanged_30 rfl (lv_at hl 0 rfl) ?_
      refine lv_iload_n hx hb dX9_isChanged_31 rfl (lv_at hl 1 rfl) ?_
      refine lv_iload_n hx hb dX9_isChanged_32 rfl (lv_at hl 2 rfl) ?_
      obtain ⟨r14, hc, hE⟩ := bd1_some hE
      refine xc_V1 (rest := []) (c_X9_textOf hc) mw_X9_textOf km_X9_151 hx hb hml hown hG hI xA_of (wG_atE (by omega) eY_0) rfl rfl ⟨Nat.le_of_ble_eq_true rfl, Nat.le_of_ble_eq_true rfl⟩ rfl hl.1 rfl (Nat.le_of_ble_eq_true rfl) dX9_isChanged_33 (fun H locs hI => ?_)
      refine lv_aload_n hx hb dX9_isChanged_36 rfl (lv_at hl 0 rfl) ?_
      refine lv_iconst (v := 0) hx hb dX9_isChanged_37 (by decide) ?_
      refine lv_iload_n hx hb dX9_isChanged_38 rfl (lv_at hl 2 rfl) ?_
      obtain ⟨r15, hc, hE⟩ := bd1_some hE
      refine xc_V1 (rest := [.int r14]) (c_X9_textOf hc) mw_X9_textOf km_X9_151 hx hb hml hown hG hI xA_of (wG_atE (by omega) eY_0) rfl rfl ⟨Nat.le_of_ble_eq_true rfl, Nat.le_of_ble_eq_true rfl⟩ rfl hl.1 rfl (Nat.le_of_ble_eq_true rfl) dX9_isChanged_39 (fun H locs hI => ?_)
      refine lv_icmp_eq (tgt := 49) hx hb dX9_isChanged_42 (by decide) (fun c42 => ?_) (fun c42 => ?_)
      · rw [if_pos c42] at hE
        refine lv_iconst (v := 0) hx hb dX9_isChanged_49 (by decide) ?_
        obtain rfl := sm1 hE
        exact hJ50_3 _ _ _ hI (lv_sub hl [0, 1, 2] rfl)
      · rw [if_neg c42] at hE
        refine lv_iconst (v := 1) hx hb dX9_isChanged_45 (by decide) ?_
        refine lv_goto (tgt := 50) hx hb dX9_isChanged_46 (by decide) ?_
        obtain rfl := sm1 hE
        exact hJ50_3 _ _ _ hI (lv_sub hl [0, 1, 2] rfl)
def X9_conflict (u : Mem) (p1 : Int32) (p2 : Int32) (p3 : Int32) : Option (Mem) :=
  (stI 480 u 10 (3 * (u 0 13)) p1).bind fun mu1 => (stI 480 mu1 10 ((3 * (mu1 0 13)) + 1) p2).bind fun mu2 => (stI 480 mu2 10 ((3 * (mu2 0 13)) + 2) p3).bind fun mu3 => (stF mu3 0 13 ((mu3 0 13) + 1)).bind fun mu4 => some mu4
set_option maxHeartbeats 4000000 in
set_option maxRecDepth 100000 in
theorem c_X9_conflict {l : Launch} {D : va_G} {A : Nat → Nat} {cI cZ cD : ClassId} {u u1 : Mem} {p1 : Int32} {p2 : Int32} {p3 : Int32}  (hE : X9_conflict u p1 p2 p3 = some (u1)) : Ct l yX9_conflict cX9_conflict 4 none (rmOf 0 0) D (tyL cI cZ cD) [.ref (A 0), .int p1, .int p2, .int p3] (wY A cI u) none (wY A cI u1) := by
  refine Ct.ofW (by decide +kernel) (fun p e s m below meth c hC hI => ?_)
  obtain ⟨hx, hb, hml, hown, hr, hlk, hG⟩ := hC
  have hown : s.vm.findClass RX9 = some m.cls := hown
  have hl := lv_entry ([.ref (A 0), .int p1, .int p2, .int p3] : List Value) (n := 4) (Nat.le_of_ble_eq_true rfl)
  rw [lg_entry_eq]
  generalize (lg_sl ([.ref (A 0), .int p1, .int p2, .int p3] : List Value) ++ List.replicate (4 - (lg_sl ([.ref (A 0), .int p1, .int p2, .int p3] : List Value)).length) Slot.unset).toArray = ls at hl ⊢
  have hl : lv_has ls 4 [(0, .ref (A 0)), (1, .int p1), (2, .int p2), (3, .int p3)] := hl
  unfold X9_conflict at hE
  refine lv_aload_n hx hb dX9_conflict_0 rfl (lv_at hl 0 rfl) ?_
  refine xg_get (C := RX9) (T := TX9) (M := 22) hx hb hown hG hI (by omega) eY_0 rfl inX9 12 (by decide) kf_X9_37 rfl dX9_conflict_1 ?_
  refine lv_iconst (v := 3) hx hb dX9_conflict_4 (by decide) ?_
  refine lv_aload_n hx hb dX9_conflict_5 rfl (lv_at hl 0 rfl) ?_
  refine xg_get (C := RX9) (T := TX9) (M := 22) hx hb hown hG hI (by omega) eY_0 rfl inX9 13 (by decide) kf_X9_145 rfl dX9_conflict_6 ?_
  refine lv_imul hx hb dX9_conflict_9 ?_
  refine lv_iload_n hx hb dX9_conflict_10 rfl (lv_at hl 1 rfl) ?_
  obtain ⟨mu1, hv, hE⟩ := bd1_some hE
  refine xg_iast 0 hx hb hG hI (by omega) eY_10 rfl hv dX9_conflict_11 (fun H locs hI => ?_)
  refine lv_aload_n hx hb dX9_conflict_12 rfl (lv_at hl 0 rfl) ?_
  refine xg_get (C := RX9) (T := TX9) (M := 22) hx hb hown hG hI (by omega) eY_0 rfl inX9 12 (by decide) kf_X9_37 rfl dX9_conflict_13 ?_
  refine lv_iconst (v := 3) hx hb dX9_conflict_16 (by decide) ?_
  refine lv_aload_n hx hb dX9_conflict_17 rfl (lv_at hl 0 rfl) ?_
  refine xg_get (C := RX9) (T := TX9) (M := 22) hx hb hown hG hI (by omega) eY_0 rfl inX9 13 (by decide) kf_X9_145 rfl dX9_conflict_18 ?_
  refine lv_imul hx hb dX9_conflict_21 ?_
  refine lv_iconst (v := 1) hx hb dX9_conflict_22 (by decide) ?_
  refine lv_iadd hx hb dX9_conflict_23 ?_
  refine lv_iload_n hx hb dX9_conflict_24 rfl (lv_at hl 2 rfl) ?_
  obtain ⟨mu2, hv, hE⟩ := bd1_some hE
  refine xg_iast 0 hx hb hG hI (by omega) eY_10 rfl hv dX9_conflict_25 (fun H locs hI => ?_)
  refine lv_aload_n hx hb dX9_conflict_26 rfl (lv_at hl 0 rfl) ?_
  refine xg_get (C := RX9) (T := TX9) (M := 22) hx hb hown hG hI (by omega) eY_0 rfl inX9 12 (by decide) kf_X9_37 rfl dX9_conflict_27 ?_
  refine lv_iconst (v := 3) hx hb dX9_conflict_30 (by decide) ?_
  refine lv_aload_n hx hb dX9_conflict_31 rfl (lv_at hl 0 rfl) ?_
  refine xg_get (C := RX9) (T := TX9) (M := 22) hx hb hown hG hI (by omega) eY_0 rfl inX9 13 (by decide) kf_X9_145 rfl dX9_conflict_32 ?_
  refine lv_imul hx hb dX9_conflict_35 ?_
  refine lv_iconst (v := 2) hx hb dX9_conflict_36 (by decide) ?_
  refine lv_iadd hx hb dX9_conflict_37 ?_
  refine lv_iload_n hx hb dX9_conflict_38 rfl (lv_at hl 3 rfl) ?_
  obtain ⟨mu3, hv, hE⟩ := bd1_some hE
  refine xg_iast 0 hx hb hG hI (by omega) eY_10 rfl hv dX9_conflict_39 (fun H locs hI => ?_)
  refine lv_aload_n hx hb dX9_conflict_40 rfl (lv_at hl 0 rfl) ?_
  refine lv_dup hx hb dX9_conflict_41 rfl ?_
  refine xg_get (C := RX9) (T := TX9) (M := 22) hx hb hown hG hI (by omega) eY_0 rfl inX9 13 (by decide) kf_X9_145 rfl dX9_conflict_42 ?_
  refine lv_iconst (v := 1) hx hb dX9_conflict_45 (by decide) ?_
  refine lv_iadd hx hb dX9_conflict_46 ?_
  obtain ⟨mu4, hu, hE⟩ := bd1_some hE
  refine xg_put (C := RX9) (T := TX9) (M := 22) hx hb hown hG hI (by omega) eY_0 rfl inX9 tyX9 tyX9_ok nmX9 13 (by decide) kf_X9_145 rfl (ty := .int) (by decide +kernel) rfl rfl (Nat.le_of_ble_eq_true rfl) rfl hu dX9_conflict_47 (fun H locs hI => ?_)
  obtain rfl := sm1 hE
  exact xr_v hx hb hr hlk hG hI dX9_conflict_50
def X9_mergeIn (u : Mem) (p1 : Int32) : Option (Mem) :=
  (X9_isIn u 1 p1 : Option Bool).bind fun (r1 : Bool) => (X9_isIn u 2 p1 : Option Bool).bind fun (r2 : Bool) => ((if (b2i r1) = 0 then some 0 else (if (b2i r2) = 0 then some 0 else some 1)) : Option Int32).bind fun (x3 : Int32) => bd2 ((if (b2i r1) = (b2i r2) then some (x3, u) else ((if (b2i r1) = 0 then some 2 else some 1) : Option Int32).bind fun (x11 : Int32) => (X9_isIn u 0 p1 : Option Bool).bind fun (r13 : Bool) => ((if (b2i r13) = 0 then some 1 else (X9_isChanged u x11 p1 : Option Bool).bind fun (r18 : Bool) => (if (b2i r18) = 0 then some 0 else some 1)) : Option Int32).bind fun (x14 : Int32) => (X9_isIn u 0 p1 : Option Bool).bind fun (r16 : Bool) => (if (b2i r16) = 0 then some (x14, u) else (if x14 = 0 then some (x14, u) else (X9_conflict u 3 p1 p1 : Option Mem).bind fun (mu17 : Mem) => some (x14, mu17))))) fun (x5 : Int32) (mu6 : Mem) => ((if x5 = 0 then some (-9) else some (-1)) : Option Int32).bind fun (x8 : Int32) => (stI 258 mu6 1 (192 + p1) x8).bind fun mu10 => some mu10
set_option maxHeartbeats 4000000 in
set_option maxRecDepth 100000 in
theorem c_X9_mergeIn {l : Launch} {D : va_G} {A : Nat → Nat} {cI cZ cD : ClassId} {u u1 : Mem} {p1 : Int32}  (hE : X9_mergeIn u p1 = some (u1)) : Ct l yX9_mergeIn cX9_mergeIn 6 none (rmOf 2 46) D (tyL cI cZ cD) [.ref (A 0), .int p1] (wY A cI u) none (wY A cI u1) := by
  refine Ct.ofW (by decide +kernel) (fun p e s m below meth c hC hI => ?_)
  obtain ⟨hx, hb, hml, hown, hr, hlk, hG⟩ := hC
  have hown : s.vm.findClass RX9 = some m.cls := hown
  have hl := lv_entry ([.ref (A 0), .int p1] : List Value) (n := 6) (Nat.le_of_ble_eq_true rfl)
  rw [lg_entry_eq]
  generalize (lg_sl ([.ref (A 0), .int p1] : List Value) ++ List.replicate (6 - (lg_sl ([.ref (A 0), .int p1] : List Value)).length) Slot.unset).toArray = ls at hl ⊢
  have hl : lv_has ls 6 [(0, .ref (A 0)), (1, .int p1)] := hl
  unfold X9_mergeIn at hE
  refine lv_aload_n hx hb dX9_mergeIn_0 rfl (lv_at hl 0 rfl) ?_
  refine lv_iconst (v := 1) hx hb dX9_mergeIn_1 (by decide) ?_
  refine lv_iload_n hx hb dX9_mergeIn_2 rfl (lv_at hl 1 rfl) ?_
  obtain ⟨r1, hc, hE⟩ := bd1_some hE
  refine xc_V1 (rest := []) (c_X9_isIn hc) mw_X9_isIn km_X9_72 hx hb hml hown hG hI xA_of (wG_atE (by omega) eY_0) rfl rfl ⟨Nat.le_of_ble_eq_true rfl, Nat.le_of_ble_eq_true rfl⟩ rfl hl.1 rfl (Nat.le_of_ble_eq_true rfl) dX9_mergeIn_3 (fun H locs hI => ?_)
  refine lv_istore_n (lv' := [(2, .int (b2i r1)), (0, .ref (A 0)), (1, .int p1)]) hx hb dX9_mergeIn_6 rfl hl (by decide) rfl (fun ls hl => ?_)
  refine lv_aload_n hx hb dX9_mergeIn_7 rfl (lv_at hl 1 rfl) ?_
  refine lv_iconst (v := 2) hx hb dX9_mergeIn_8 (by decide) ?_
  refine lv_iload_n hx hb dX9_mergeIn_9 rfl (lv_at hl 2 rfl) ?_
  obtain ⟨r2, hc, hE⟩ := bd1_some hE
  refine xc_V1 (rest := []) (c_X9_isIn hc) mw_X9_isIn km_X9_72 hx hb hml hown hG hI xA_of (wG_atE (by omega) eY_0) rfl rfl ⟨Nat.le_of_ble_eq_true rfl, Nat.le_of_ble_eq_true rfl⟩ rfl hl.1 rfl (Nat.le_of_ble_eq_true rfl) dX9_mergeIn_10 (fun H locs hI => ?_)
  refine lv_istore_n (lv' := [(3, .int (b2i r2)), (2, .int (b2i r1)), (0, .ref (A 0)), (1, .int p1)]) hx hb dX9_mergeIn_13 rfl hl (by decide) rfl (fun ls hl => ?_)
  refine lv_iload_n hx hb dX9_mergeIn_14 rfl (lv_at hl 1 rfl) ?_
  obtain ⟨x3, hZ, hE⟩ := bd1_some hE
  have hJ27_3 : ∀ (H : Heap) (locs : List Loc) (ls : Array Slot), xI D (va_A (wY A cI u) s.heap.size) s.heap (wY A cI u) H locs → lv_has ls 6 [(0, .ref (A 0)), (1, .int p1), (2, .int (b2i r1)), (3, .int (b2i r2))] → W p l e (rmOf 2 46) s m ([.ref (A 0), .int p1] : List Value).toArray below meth c H locs 0 0 (xQ D (tyL cI cZ cD) below ([.ref (A 0), .int p1] : List Value).toArray s (wY A cI u) none (wY A cI u1)) (F0 m 27 ls [.int x3]) := by
    intro H locs ls hI hl
    clear hZ
    refine lv_istore (lv' := [(4, .int x3), (0, .ref (A 0)), (1, .int p1), (2, .int (b2i r1)), (3, .int (b2i r2))]) hx hb dX9_mergeIn_27 hl (by decide) rfl (fun ls hl => ?_)
    refine lv_iload_n hx hb dX9_mergeIn_29 rfl (lv_at hl 3 rfl) ?_
    refine lv_iload_n hx hb dX9_mergeIn_30 rfl (lv_at hl 4 rfl) ?_
    obtain ⟨x5, mu6, hZ, hE⟩ := bd2_some hE
    have hJ92_6 : ∀ (H : Heap) (locs : List Loc) (ls : Array Slot), xI D (va_A (wY A cI u) s.heap.size) s.heap (wY A cI mu6) H locs → lv_has ls 6 [(0, .ref (A 0)), (1, .int p1), (4, .int x5)] → W p l e (rmOf 2 46) s m ([.ref (A 0), .int p1] : List Value).toArray below meth c H locs 0 0 (xQ D (tyL cI cZ cD) below ([.ref (A 0), .int p1] : List Value).toArray s (wY A cI u) none (wY A cI u1)) (F0 m 92 ls []) := by
      intro H locs ls hI hl
      clear hZ
      refine lv_aload_n hx hb dX9_mergeIn_92 rfl (lv_at hl 0 rfl) ?_
      refine xg_get (C := RX9) (T := TX9) (M := 22) hx hb hown hG hI (by omega) eY_0 rfl inX9 0 (by decide) kf_X9_7 rfl dX9_mergeIn_93 ?_
      refine lv_sipush (v := 192) hx hb dX9_mergeIn_96 (by decide) ?_
      refine lv_iload_n hx hb dX9_mergeIn_99 rfl (lv_at hl 1 rfl) ?_
      refine lv_iadd hx hb dX9_mergeIn_100 ?_
      refine lv_iload hx hb dX9_mergeIn_101 (lv_at hl 2 rfl) ?_
      obtain ⟨x8, hZ, hE⟩ := bd1_some hE
      have hJ112_8 : ∀ (H : Heap) (locs : List Loc) (ls : Array Slot), xI D (va_A (wY A cI u) s.heap.size) s.heap (wY A cI mu6) H locs → lv_has ls 6 [] → W p l e (rmOf 2 46) s m ([.ref (A 0), .int p1] : List Value).toArray below meth c H locs 0 0 (xQ D (tyL cI cZ cD) below ([.ref (A 0), .int p1] : List Value).toArray s (wY A cI u) none (wY A cI u1)) (F0 m 112 ls [.int x8, .int (192 + p1), .ref (A 1)]) := by
        intro H locs ls hI hl
        clear hZ
        obtain ⟨mu10, hv, hE⟩ := bd1_some hE
        refine xg_iast 0 hx hb hG hI (by omega) eY_1 rfl hv dX9_mergeIn_112 (fun H locs hI => ?_)
        obtain rfl := sm1 hE
        exact xr_v hx hb hr hlk hG hI dX9_mergeIn_113
      replace hE := hZ
      clear hZ
      refine lv_if_eq (tgt := 110) hx hb dX9_mergeIn_103 (by decide) (fun c103 => ?_) (fun c103 => ?_)
      · rw [if_pos c103] at hE
        refine lv_bipush (v := (-9)) hx hb dX9_mergeIn_110 (by decide) ?_
        obtain rfl := sm1 hE
        exact hJ112_8 _ _ _ hI (lv_sub hl [] rfl)
      · rw [if_neg c103] at hE
        refine lv_iconst (v := (-1)) hx hb dX9_mergeIn_106 (by decide) ?_
        refine lv_goto (tgt := 112) hx hb dX9_mergeIn_107 (by decide) ?_
        obtain rfl := sm1 hE
        exact hJ112_8 _ _ _ hI (lv_sub hl [] rfl)
    replace hE := hZ
    clear hZ
    refine lv_icmp_eq (tgt := 92) hx hb dX9_mergeIn_31 (by decide) (fun c31 => ?_) (fun c31 => ?_)
    · rw [if_pos c31] at hE
      obtain ⟨rfl, rfl⟩ := sm2 hE
      exact hJ92_6 _ _ _ hI (lv_sub hl [1, 2, 0] rfl)
    · rw [if_neg c31] at hE
      refine lv_iload_n hx hb dX9_mergeIn_34 rfl (lv_at hl 3 rfl) ?_
      obtain ⟨x11, hZ, hE⟩ := bd1_some hE
      have hJ43_11 : ∀ (H : Heap) (locs : List Loc) (ls : Array Slot), xI D (va_A (wY A cI u) s.heap.size) s.heap (wY A cI u) H locs → lv_has ls 6 [(0, .ref (A 0)), (1, .int p1)] → W p l e (rmOf 2 46) s m ([.ref (A 0), .int p1] : List Value).toArray below meth c H locs 0 0 (xQ D (tyL cI cZ cD) below ([.ref (A 0), .int p1] : List Value).toArray s (wY A cI u) none (wY A cI u1)) (F0 m 43 ls [.int x11]) := by
        intro H locs ls hI hl
        clear hZ
        refine lv_istore (lv' := [(5, .int x11), (0, .ref (A 0)), (1, .int p1)]) hx hb dX9_mergeIn_43 hl (by decide) rfl (fun ls hl => ?_)
        refine lv_aload_n hx hb dX9_mergeIn_45 rfl (lv_at hl 1 rfl) ?_
        refine lv_iconst (v := 0) hx hb dX9_mergeIn_46 (by decide) ?_
        refine lv_iload_n hx hb dX9_mergeIn_47 rfl (lv_at hl 2 rfl) ?_
        obtain ⟨r13, hc, hE⟩ := bd1_some hE
        refine xc_V1 (rest := []) (c_X9_isIn hc) mw_X9_isIn km_X9_72 hx hb hml hown hG hI xA_of (wG_atE (by omega) eY_0) rfl rfl ⟨Nat.le_of_ble_eq_true rfl, Nat.le_of_ble_eq_true rfl⟩ rfl hl.1 rfl (Nat.le_of_ble_eq_true rfl) dX9_mergeIn_48 (fun H locs hI => ?_)
        obtain ⟨x14, hZ, hE⟩ := bd1_some hE
        have hJ69_14 : ∀ (H : Heap) (locs : List Loc) (ls : Array Slot), xI D (va_A (wY A cI u) s.heap.size) s.heap (wY A cI u) H locs → lv_has ls 6 [(0, .ref (A 0)), (1, .int p1)] → W p l e (rmOf 2 46) s m ([.ref (A 0), .int p1] : List Value).toArray below meth c H locs 0 0 (xQ D (tyL cI cZ cD) below ([.ref (A 0), .int p1] : List Value).toArray s (wY A cI u) none (wY A cI u1)) (F0 m 69 ls [.int x14]) := by
          intro H locs ls hI hl
          clear hZ
          refine lv_istore (lv' := [(4, .int x14), (0, .ref (A 0)), (1, .int p1)]) hx hb dX9_mergeIn_69 hl (by decide) rfl (fun ls hl => ?_)
          refine lv_aload_n hx hb dX9_mergeIn_71 rfl (lv_at hl 1 rfl) ?_
          refine lv_iconst (v := 0) hx hb dX9_mergeIn_72 (by decide) ?_
          refine lv_iload_n hx hb dX9_mergeIn_73 rfl (lv_at hl 2 rfl) ?_
          obtain ⟨r16, hc, hE⟩ := bd1_some hE
          refine xc_V1 (rest := []) (c_X9_isIn hc) mw_X9_isIn km_X9_72 hx hb hml hown hG hI xA_of (wG_atE (by omega) eY_0) rfl rfl ⟨Nat.le_of_ble_eq_true rfl, Nat.le_of_ble_eq_true rfl⟩ rfl hl.1 rfl (Nat.le_of_ble_eq_true rfl) dX9_mergeIn_74 (fun H locs hI => ?_)
          refine lv_if_eq (tgt := 92) hx hb dX9_mergeIn_77 (by decide) (fun c77 => ?_) (fun c77 => ?_)
          · rw [if_pos c77] at hE
            obtain ⟨rfl, rfl⟩ := sm2 hE
            exact hJ92_6 _ _ _ hI (lv_sub hl [1, 2, 0] rfl)
          · rw [if_neg c77] at hE
            refine lv_iload hx hb dX9_mergeIn_80 (lv_at hl 0 rfl) ?_
            refine lv_if_eq (tgt := 92) hx hb dX9_mergeIn_82 (by decide) (fun c82 => ?_) (fun c82 => ?_)
            · rw [if_pos c82] at hE
              obtain ⟨rfl, rfl⟩ := sm2 hE
              exact hJ92_6 _ _ _ hI (lv_sub hl [1, 2, 0] rfl)
            · rw [if_neg c82] at hE
              refine lv_aload_n hx hb dX9_mergeIn_85 rfl (lv_at hl 1 rfl) ?_
              refine lv_iconst (v := 3) hx hb dX9_mergeIn_86 (by decide) ?_
              refine lv_iload_n hx hb dX9_mergeIn_87 rfl (lv_at hl 2 rfl) ?_
              refine lv_iload_n hx hb dX9_mergeIn_88 rfl (lv_at hl 2 rfl) ?_
              obtain ⟨mu17, hc, hE⟩ := bd1_some hE
              refine xc_V0 (rest := []) (c_X9_conflict hc) mw_X9_conflict km_X9_157 hx hb hml hown hG hI xA_of (wG_atE (by omega) eY_0) rfl rfl ⟨Nat.le_of_ble_eq_true rfl, Nat.le_of_ble_eq_true rfl⟩ rfl hl.1 rfl (Nat.le_of_ble_eq_true rfl) dX9_mergeIn_89 (fun H locs hI => ?_)
              obtain ⟨rfl, rfl⟩ := sm2 hE
              exact hJ92_6 _ _ _ hI (lv_sub hl [1, 2, 0] rfl)
        replace hE := hZ
        clear hZ
        refine lv_if_eq (tgt := 64) hx hb dX9_mergeIn_51 (by decide) (fun c51 => ?_) (fun c51 => ?_)
        · rw [if_pos c51] at hE
          refine lv_iconst (v := 1) hx hb dX9_mergeIn_64 (by decide) ?_
          refine lv_goto (tgt := 69) hx hb dX9_mergeIn_65 (by decide) ?_
          obtain rfl := sm1 hE
          exact hJ69_14 _ _ _ hI (lv_sub hl [1, 2] rfl)
        · rw [if_neg c51] at hE
          refine lv_aload_n hx hb dX9_mergeIn_54 rfl (lv_at hl 1 rfl) ?_
          refine lv_iload hx hb dX9_mergeIn_55 (lv_at hl 0 rfl) ?_
          refine lv_iload_n hx hb dX9_mergeIn_57 rfl (lv_at hl 2 rfl) ?_
          obtain ⟨r18, hc, hE⟩ := bd1_some hE
          refine xc_V1 (rest := []) (c_X9_isChanged hc) mw_X9_isChanged km_X9_154 hx hb hml hown hG hI xA_of (wG_atE (by omega) eY_0) rfl rfl ⟨Nat.le_of_ble_eq_true rfl, Nat.le_of_ble_eq_true rfl⟩ rfl hl.1 rfl (Nat.le_of_ble_eq_true rfl) dX9_mergeIn_58 (fun H locs hI => ?_)
          refine lv_if_eq (tgt := 68) hx hb dX9_mergeIn_61 (by decide) (fun c61 => ?_) (fun c61 => ?_)
          · rw [if_pos c61] at hE
            refine lv_iconst (v := 0) hx hb dX9_mergeIn_68 (by decide) ?_
            obtain rfl := sm1 hE
            exact hJ69_14 _ _ _ hI (lv_sub hl [1, 2] rfl)
          · rw [if_neg c61] at hE
            refine lv_iconst (v := 1) hx hb dX9_mergeIn_64 (by decide) ?_
            refine lv_goto (tgt := 69) hx hb dX9_mergeIn_65 (by decide) ?_
            obtain rfl := sm1 hE
            exact hJ69_14 _ _ _ hI (lv_sub hl [1, 2] rfl)
      replace hE := hZ
      clear hZ
      refine lv_if_eq (tgt := 42) hx hb dX9_mergeIn_35 (by decide) (fun c35 => ?_) (fun c35 => ?_)
      · rw [if_pos c35] at hE
        refine lv_iconst (v := 2) hx hb dX9_mergeIn_42 (by decide) ?_
        obtain rfl := sm1 hE
        exact hJ43_11 _ _ _ hI (lv_sub hl [1, 2] rfl)
      · rw [if_neg c35] at hE
        refine lv_iconst (v := 1) hx hb dX9_mergeIn_38 (by decide) ?_
        refine lv_goto (tgt := 43) hx hb dX9_mergeIn_39 (by decide) ?_
        obtain rfl := sm1 hE
        exact hJ43_11 _ _ _ hI (lv_sub hl [1, 2] rfl)
  replace hE := hZ
  clear hZ
  refine lv_if_eq (tgt := 26) hx hb dX9_mergeIn_15 (by decide) (fun c15 => ?_) (fun c15 => ?_)
  · rw [if_pos c15] at hE
    refine lv_iconst (v := 0) hx hb dX9_mergeIn_26 (by decide) ?_
    obtain rfl := sm1 hE
    exact hJ27_3 _ _ _ hI (lv_sub hl [2, 3, 1, 0] rfl)
  · rw [if_neg c15] at hE
    refine lv_iload_n hx hb dX9_mergeIn_18 rfl (lv_at hl 0 rfl) ?_
    refine lv_if_eq (tgt := 26) hx hb dX9_mergeIn_19 (by decide) (fun c19 => ?_) (fun c19 => ?_)
    · rw [if_pos c19] at hE
      refine lv_iconst (v := 0) hx hb dX9_mergeIn_26 (by decide) ?_
      obtain rfl := sm1 hE
      exact hJ27_3 _ _ _ hI (lv_sub hl [2, 3, 1, 0] rfl)
    · rw [if_neg c19] at hE
      refine lv_iconst (v := 1) hx hb dX9_mergeIn_22 (by decide) ?_
      refine lv_goto (tgt := 27) hx hb dX9_mergeIn_23 (by decide) ?_
      obtain rfl := sm1 hE
      exact hJ27_3 _ _ _ hI (lv_sub hl [2, 3, 1, 0] rfl)
def X9_settle (u : Mem) (p1 : Int32) (p2 : Int32) (p3 : Int32) : Option (Mem) :=
  (rd 258 (u 1) 256).bind fun v1 => (rd 258 (u 1) (((64 * v1) + p1) + p2)).bind fun v2 => (rd 258 (u 1) (((64 * (3 - v1)) + p1) + p2)).bind fun v3 => (rd 258 (u 1) (p1 + p2)).bind fun v4 => (X9_isIn u 0 p2 : Option Bool).bind fun (r5 : Bool) => (X9_isIn u v1 p2 : Option Bool).bind fun (r6 : Bool) => bd2 ((if (b2i r6) = 0 then some (v3, u) else (X9_isIn u (3 - v1) p2 : Option Bool).bind fun (r11 : Bool) => (if (b2i r11) = 0 then some (v2, u) else (if v2 = v3 then some (v2, u) else (if (b2i r5) = 0 then (if (b2i r5) = 0 then ((if p3 = 2 then some v3 else some p2) : Option Int32).bind fun (x12 : Int32) => (X9_conflict u p3 p2 x12 : Option Mem).bind fun (mu14 : Mem) => some (v2, mu14) else (if v3 = v4 then some (v2, u) else ((if p3 = 2 then some v3 else some p2) : Option Int32).bind fun (x15 : Int32) => (X9_conflict u p3 p2 x15 : Option Mem).bind fun (mu17 : Mem) => some (v2, mu17))) else (if v2 = v4 then some (v3, u) else (if (b2i r5) = 0 then ((if p3 = 2 then some v3 else some p2) : Option Int32).bind fun (x18 : Int32) => (X9_conflict u p3 p2 x18 : Option Mem).bind fun (mu20 : Mem) => some (v2, mu20) else (if v3 = v4 then some (v2, u) else ((if p3 = 2 then some v3 else some p2) : Option Int32).bind fun (x21 : Int32) => (X9_conflict u p3 p2 x21 : Option Mem).bind fun (mu23 : Mem) => some (v2, mu23))))))))) fun (x7 : Int32) (mu8 : Mem) => (stI 258 mu8 1 ((192 + p1) + p2) x7).bind fun mu10 => some mu10
set_option maxHeartbeats 4000000 in
set_option maxRecDepth 100000 in
theorem c_X9_settle {l : Launch} {D : va_G} {A : Nat → Nat} {cI cZ cD : ClassId} {u u1 : Mem} {p1 : Int32} {p2 : Int32} {p3 : Int32}  (hE : X9_settle u p1 p2 p3 = some (u1)) : Ct l yX9_settle cX9_settle 11 none (rmOf 1 23) D (tyL cI cZ cD) [.ref (A 0), .int p1, .int p2, .int p3] (wY A cI u) none (wY A cI u1) := by
  refine Ct.ofW (by decide +kernel) (fun p e s m below meth c hC hI => ?_)
  obtain ⟨hx, hb, hml, hown, hr, hlk, hG⟩ := hC
  have hown : s.vm.findClass RX9 = some m.cls := hown
  have hl := lv_entry ([.ref (A 0), .int p1, .int p2, .int p3] : List Value) (n := 11) (Nat.le_of_ble_eq_true rfl)
  rw [lg_entry_eq]
  generalize (lg_sl ([.ref (A 0), .int p1, .int p2, .int p3] : List Value) ++ List.replicate (11 - (lg_sl ([.ref (A 0), .int p1, .int p2, .int p3] : List Value)).length) Slot.unset).toArray = ls at hl ⊢
  have hl : lv_has ls 11 [(0, .ref (A 0)), (1, .int p1), (2, .int p2), (3, .int p3)] := hl
  unfold X9_settle at hE
  refine lv_aload_n hx hb dX9_settle_0 rfl (lv_at hl 0 rfl) ?_
  refine xg_get (C := RX9) (T := TX9) (M := 22) hx hb hown hG hI (by omega) eY_0 rfl inX9 0 (by decide) kf_X9_7 rfl dX9_settle_1 ?_
  refine lv_sipush (v := 256) hx hb dX9_settle_4 (by decide) ?_
  obtain ⟨v1, hv, hE⟩ := bd1_some hE
  refine xg_iald 0 hx hb hG hI (by omega) eY_1 rfl hv dX9_settle_7 ?_
  refine lv_istore (lv' := [(4, .int v1), (0, .ref (A 0)), (1, .int p1), (2, .int p2), (3, .int p3)]) hx hb dX9_settle_8 hl (by decide) rfl (fun ls hl => ?_)
  refine lv_iconst (v := 3) hx hb dX9_settle_10 (by decide) ?_
  refine lv_iload hx hb dX9_settle_11 (lv_at hl 0 rfl) ?_
  refine lv_isub hx hb dX9_settle_13 ?_
  refine lv_istore (lv' := [(5, .int (3 - v1)), (4, .int v1), (0, .ref (A 0)), (1, .int p1), (2, .int p2), (3, .int p3)]) hx hb dX9_settle_14 hl (by decide) rfl (fun ls hl => ?_)
  refine lv_aload_n hx hb dX9_settle_16 rfl (lv_at hl 2 rfl) ?_
  refine xg_get (C := RX9) (T := TX9) (M := 22) hx hb hown hG hI (by omega) eY_0 rfl inX9 0 (by decide) kf_X9_7 rfl dX9_settle_17 ?_
  refine lv_bipush (v := 64) hx hb dX9_settle_20 (by decide) ?_
  refine lv_iload hx hb dX9_settle_22 (lv_at hl 1 rfl) ?_
  refine lv_imul hx hb dX9_settle_24 ?_
  refine lv_iload_n hx hb dX9_settle_25 rfl (lv_at hl 3 rfl) ?_
  refine lv_iadd hx hb dX9_settle_26 ?_
  refine lv_iload_n hx hb dX9_settle_27 rfl (lv_at hl 4 rfl) ?_
  refine lv_iadd hx hb dX9_settle_28 ?_
  obtain ⟨v2, hv, hE⟩ := bd1_some hE
  refine xg_iald 0 hx hb hG hI (by omega) eY_1 rfl hv dX9_settle_29 ?_
  refine lv_istore (lv' := [(6, .int v2), (5, .int (3 - v1)), (4, .int v1), (0, .ref (A 0)), (1, .int p1), (2, .int p2), (3, .int p3)]) hx hb dX9_settle_30 hl (by decide) rfl (fun ls hl => ?_)
  refine lv_aload_n hx hb dX9_settle_32 rfl (lv_at hl 3 rfl) ?_
  refine xg_get (C := RX9) (T := TX9) (M := 22) hx hb hown hG hI (by omega) eY_0 rfl inX9 0 (by decide) kf_X9_7 rfl dX9_settle_33 ?_
  refine lv_bipush (v := 64) hx hb dX9_settle_36 (by decide) ?_
  refine lv_iload hx hb dX9_settle_38 (lv_at hl 1 rfl) ?_
  refine lv_imul hx hb dX9_settle_40 ?_
  refine lv_iload_n hx hb dX9_settle_41 rfl (lv_at hl 4 rfl) ?_
  refine lv_iadd hx hb dX9_settle_42 ?_
  refine lv_iload_n hx hb dX9_settle_43 rfl (lv_at hl 5 rfl) ?_
  refine lv_iadd hx hb dX9_settle_44 ?_
  obtain ⟨v3, hv, hE⟩ := bd1_some hE
  refine xg_iald 0 hx hb hG hI (by omega) eY_1 rfl hv dX9_settle_45 ?_
  refine lv_istore (lv' := [(7, .int v3), (6, .int v2), (5, .int (3 - v1)), (4, .int v1), (0, .ref (A 0)), (1, .int p1), (2, .int p2), (3, .int p3)]) hx hb dX9_settle_46 hl (by decide) rfl (fun ls hl => ?_)
  refine lv_aload_n hx hb dX9_settle_48 rfl (lv_at hl 4 rfl) ?_
  refine xg_get (C := RX9) (T := TX9) (M := 22) hx hb hown hG hI (by omega) eY_0 rfl inX9 0 (by decide) kf_X9_7 rfl dX9_settle_49 ?_
  refine lv_iload_n hx hb dX9_settle_52 rfl (lv_at hl 5 rfl) ?_
  refine lv_iload_n hx hb dX9_settle_53 rfl (lv_at hl 6 rfl) ?_
  refine lv_iadd hx hb dX9_settle_54 ?_
  obtain ⟨v4, hv, hE⟩ := bd1_some hE
  refine xg_iald 0 hx hb hG hI (by omega) eY_1 rfl hv dX9_settle_55 ?_
  refine lv_istore (lv' := [(8, .int v4), (7, .int v3), (6, .int v2), (5, .int (3 - v1)), (4, .int v1), (0, .ref (A 0)), (1, .int p1), (2, .int p2), (3, .int p3)]) hx hb dX9_settle_56 hl (by decide) rfl (fun ls hl => ?_)
  refine lv_aload_n hx hb dX9_settle_58 rfl (lv_at hl 5 rfl) ?_
  refine lv_iconst (v := 0) hx hb dX9_settle_59 (by decide) ?_
  refine lv_iload_n hx hb dX9_settle_60 rfl (lv_at hl 7 rfl) ?_
  obtain ⟨r5, hc, hE⟩ := bd1_some hE
  refine xc_V1 (rest := []) (c_X9_isIn hc) mw_X9_isIn km_X9_72 hx hb hml hown hG hI xA_of (wG_atE (by omega) eY_0) rfl rfl ⟨Nat.le_of_ble_eq_true rfl, Nat.le_of_ble_eq_true rfl⟩ rfl hl.1 rfl (Nat.le_of_ble_eq_true rfl) dX9_settle_61 (fun H locs hI => ?_)
  refine lv_istore (lv' := [(9, .int (b2i r5)), (8, .int v4), (7, .int v3), (6, .int v2), (5, .int (3 - v1)), (4, .int v1), (0, .ref (A 0)), (1, .int p1), (2, .int p2), (3, .int p3)]) hx hb dX9_settle_64 hl (by decide) rfl (fun ls hl => ?_)
  refine lv_iload hx hb dX9_settle_66 (lv_at hl 3 rfl) ?_
  refine lv_istore (lv' := [(10, .int v2), (9, .int (b2i r5)), (8, .int v4), (7, .int v3), (6, .int v2), (5, .int (3 - v1)), (4, .int v1), (0, .ref (A 0)), (1, .int p1), (2, .int p2), (3, .int p3)]) hx hb dX9_settle_68 hl (by decide) rfl (fun ls hl => ?_)
  refine lv_aload_n hx hb dX9_settle_70 rfl (lv_at hl 7 rfl) ?_
  refine lv_iload hx hb dX9_settle_71 (lv_at hl 6 rfl) ?_
  refine lv_iload_n hx hb dX9_settle_73 rfl (lv_at hl 9 rfl) ?_
  obtain ⟨r6, hc, hE⟩ := bd1_some hE
  refine xc_V1 (rest := []) (c_X9_isIn hc) mw_X9_isIn km_X9_72 hx hb hml hown hG hI xA_of (wG_atE (by omega) eY_0) rfl rfl ⟨Nat.le_of_ble_eq_true rfl, Nat.le_of_ble_eq_true rfl⟩ rfl hl.1 rfl (Nat.le_of_ble_eq_true rfl) dX9_settle_74 (fun H locs hI => ?_)
  obtain ⟨x7, mu8, hZ, hE⟩ := bd2_some hE
  have hJ152_8 : ∀ (H : Heap) (locs : List Loc) (ls : Array Slot), xI D (va_A (wY A cI u) s.heap.size) s.heap (wY A cI mu8) H locs → lv_has ls 11 [(0, .ref (A 0)), (1, .int p1), (2, .int p2), (10, .int x7)] → W p l e (rmOf 1 23) s m ([.ref (A 0), .int p1, .int p2, .int p3] : List Value).toArray below meth c H locs 0 0 (xQ D (tyL cI cZ cD) below ([.ref (A 0), .int p1, .int p2, .int p3] : List Value).toArray s (wY A cI u) none (wY A cI u1)) (F0 m 152 ls []) := by
    intro H locs ls hI hl
    clear hZ
    refine lv_aload_n hx hb dX9_settle_152 rfl (lv_at hl 0 rfl) ?_
    refine xg_get (C := RX9) (T := TX9) (M := 22) hx hb hown hG hI (by omega) eY_0 rfl inX9 0 (by decide) kf_X9_7 rfl dX9_settle_153 ?_
    refine lv_sipush (v := 192) hx hb dX9_settle_156 (by decide) ?_
    refine lv_iload_n hx hb dX9_settle_159 rfl (lv_at hl 1 rfl) ?_
    refine lv_iadd hx hb dX9_settle_160 ?_
    refine lv_iload_n hx hb dX9_settle_161 rfl (lv_at hl 2 rfl) ?_
    refine lv_iadd hx hb dX9_settle_162 ?_
    refine lv_iload hx hb dX9_settle_163 (lv_at hl 3 rfl) ?_
    obtain ⟨mu10, hv, hE⟩ := bd1_some hE
    refine xg_iast 0 hx hb hG hI (by omega) eY_1 rfl hv dX9_settle_165 (fun H locs hI => ?_)
    obtain rfl := sm1 hE
    exact xr_v hx hb hr hlk hG hI dX9_settle_166
  replace hE := hZ
  clear hZ
  refine lv_if_ne (tgt := 87) hx hb dX9_settle_77 (by decide) (fun c77 => ?_) (fun c77 => ?_)
  · rw [if_neg c77] at hE
    refine lv_aload_n hx hb dX9_settle_87 rfl (lv_at hl 7 rfl) ?_
    refine lv_iload hx hb dX9_settle_88 (lv_at hl 5 rfl) ?_
    refine lv_iload_n hx hb dX9_settle_90 rfl (lv_at hl 9 rfl) ?_
    obtain ⟨r11, hc, hE⟩ := bd1_some hE
    refine xc_V1 (rest := []) (c_X9_isIn hc) mw_X9_isIn km_X9_72 hx hb hml hown hG hI xA_of (wG_atE (by omega) eY_0) rfl rfl ⟨Nat.le_of_ble_eq_true rfl, Nat.le_of_ble_eq_true rfl⟩ rfl hl.1 rfl (Nat.le_of_ble_eq_true rfl) dX9_settle_91 (fun H locs hI => ?_)
    refine lv_if_eq (tgt := 152) hx hb dX9_settle_94 (by decide) (fun c94 => ?_) (fun c94 => ?_)
    · rw [if_pos c94] at hE
      obtain ⟨rfl, rfl⟩ := sm2 hE
      exact hJ152_8 _ _ _ hI (lv_sub hl [7, 8, 9, 0] rfl)
    · rw [if_neg c94] at hE
      refine lv_iload hx hb dX9_settle_97 (lv_at hl 4 rfl) ?_
      refine lv_iload hx hb dX9_settle_99 (lv_at hl 3 rfl) ?_
      refine lv_icmp_eq (tgt := 152) hx hb dX9_settle_101 (by decide) (fun c101 => ?_) (fun c101 => ?_)
      · rw [if_pos c101] at hE
        obtain ⟨rfl, rfl⟩ := sm2 hE
        exact hJ152_8 _ _ _ hI (lv_sub hl [7, 8, 9, 0] rfl)
      · rw [if_neg c101] at hE
        refine lv_iload hx hb dX9_settle_104 (lv_at hl 1 rfl) ?_
        refine lv_if_eq (tgt := 123) hx hb dX9_settle_106 (by decide) (fun c106 => ?_) (fun c106 => ?_)
        · rw [if_pos c106] at hE
          refine lv_iload hx hb dX9_settle_123 (lv_at hl 1 rfl) ?_
          refine lv_if_eq (tgt := 135) hx hb dX9_settle_125 (by decide) (fun c125 => ?_) (fun c125 => ?_)
          · rw [if_pos c125] at hE
            refine lv_aload_n hx hb dX9_settle_135 rfl (lv_at hl 7 rfl) ?_
            refine lv_iload_n hx hb dX9_settle_136 rfl (lv_at hl 10 rfl) ?_
            refine lv_iload_n hx hb dX9_settle_137 rfl (lv_at hl 9 rfl) ?_
            refine lv_iload_n hx hb dX9_settle_138 rfl (lv_at hl 10 rfl) ?_
            refine lv_iconst (v := 2) hx hb dX9_settle_139 (by decide) ?_
            obtain ⟨x12, hZ, hE⟩ := bd1_some hE
            have hJ149_12 : ∀ (H : Heap) (locs : List Loc) (ls : Array Slot), xI D (va_A (wY A cI u) s.heap.size) s.heap (wY A cI u) H locs → lv_has ls 11 [(0, .ref (A 0)), (1, .int p1), (2, .int p2), (10, .int v2)] → W p l e (rmOf 1 23) s m ([.ref (A 0), .int p1, .int p2, .int p3] : List Value).toArray below meth c H locs 0 0 (xQ D (tyL cI cZ cD) below ([.ref (A 0), .int p1, .int p2, .int p3] : List Value).toArray s (wY A cI u) none (wY A cI u1)) (F0 m 149 ls [.int x12, .int p2, .int p3, .ref (A 0)]) := by
              intro H locs ls hI hl
              clear hZ
              obtain ⟨mu14, hc, hE⟩ := bd1_some hE
              refine xc_V0 (rest := []) (c_X9_conflict hc) mw_X9_conflict km_X9_157 hx hb hml hown hG hI xA_of (wG_atE (by omega) eY_0) rfl rfl ⟨Nat.le_of_ble_eq_true rfl, Nat.le_of_ble_eq_true rfl⟩ rfl hl.1 rfl (Nat.le_of_ble_eq_true rfl) dX9_settle_149 (fun H locs hI => ?_)
              obtain ⟨rfl, rfl⟩ := sm2 hE
              exact hJ152_8 _ _ _ hI (lv_sub hl [0, 1, 2, 3] rfl)
            replace hE := hZ
            clear hZ
            refine lv_icmp_ne (tgt := 148) hx hb dX9_settle_140 (by decide) (fun c140 => ?_) (fun c140 => ?_)
            · rw [if_neg c140] at hE
              refine lv_iload_n hx hb dX9_settle_148 rfl (lv_at hl 9 rfl) ?_
              obtain rfl := sm1 hE
              exact hJ149_12 _ _ _ hI (lv_sub hl [7, 8, 9, 0] rfl)
            · rw [if_pos c140] at hE
              refine lv_iload hx hb dX9_settle_143 (lv_at hl 3 rfl) ?_
              refine lv_goto (tgt := 149) hx hb dX9_settle_145 (by decide) ?_
              obtain rfl := sm1 hE
              exact hJ149_12 _ _ _ hI (lv_sub hl [7, 8, 9, 0] rfl)
          · rw [if_neg c125] at hE
            refine lv_iload hx hb dX9_settle_128 (lv_at hl 3 rfl) ?_
            refine lv_iload hx hb dX9_settle_130 (lv_at hl 2 rfl) ?_
            refine lv_icmp_eq (tgt := 152) hx hb dX9_settle_132 (by decide) (fun c132 => ?_) (fun c132 => ?_)
            · rw [if_pos c132] at hE
              obtain ⟨rfl, rfl⟩ := sm2 hE
              exact hJ152_8 _ _ _ hI (lv_sub hl [7, 8, 9, 0] rfl)
            · rw [if_neg c132] at hE
              refine lv_aload_n hx hb dX9_settle_135 rfl (lv_at hl 7 rfl) ?_
              refine lv_iload_n hx hb dX9_settle_136 rfl (lv_at hl 10 rfl) ?_
              refine lv_iload_n hx hb dX9_settle_137 rfl (lv_at hl 9 rfl) ?_
              refine lv_iload_n hx hb dX9_settle_138 rfl (lv_at hl 10 rfl) ?_
              refine lv_iconst (v := 2) hx hb dX9_settle_139 (by decide) ?_
              obtain ⟨x15, hZ, hE⟩ := bd1_some hE
              have hJ149_15 : ∀ (H : Heap) (locs : List Loc) (ls : Array Slot), xI D (va_A (wY A cI u) s.heap.size) s.heap (wY A cI u) H locs → lv_has ls 11 [(0, .ref (A 0)), (1, .int p1), (2, .int p2), (10, .int v2)] → W p l e (rmOf 1 23) s m ([.ref (A 0), .int p1, .int p2, .int p3] : List Value).toArray below meth c H locs 0 0 (xQ D (tyL cI cZ cD) below ([.ref (A 0), .int p1, .int p2, .int p3] : List Value).toArray s (wY A cI u) none (wY A cI u1)) (F0 m 149 ls [.int x15, .int p2, .int p3, .ref (A 0)]) := by
                intro H locs ls hI hl
                clear hZ
                obtain ⟨mu17, hc, hE⟩ := bd1_some hE
                refine xc_V0 (rest := []) (c_X9_conflict hc) mw_X9_conflict km_X9_157 hx hb hml hown hG hI xA_of (wG_atE (by omega) eY_0) rfl rfl ⟨Nat.le_of_ble_eq_true rfl, Nat.le_of_ble_eq_true rfl⟩ rfl hl.1 rfl (Nat.le_of_ble_eq_true rfl) dX9_settle_149 (fun H locs hI => ?_)
                obtain ⟨rfl, rfl⟩ := sm2 hE
                exact hJ152_8 _ _ _ hI (lv_sub hl [0, 1, 2, 3] rfl)
              replace hE := hZ
              clear hZ
              refine lv_icmp_ne (tgt := 148) hx hb dX9_settle_140 (by decide) (fun c140 => ?_) (fun c140 => ?_)
              · rw [if_neg c140] at hE
                refine lv_iload_n hx hb dX9_settle_148 rfl (lv_at hl 9 rfl) ?_
                obtain rfl := sm1 hE
                exact hJ149_15 _ _ _ hI (lv_sub hl [7, 8, 9, 0] rfl)
              · rw [if_pos c140] at hE
                refine lv_iload hx hb dX9_settle_143 (lv_at hl 3 rfl) ?_
                refine lv_goto (tgt := 149) hx hb dX9_settle_145 (by decide) ?_
                obtain rfl := sm1 hE
                exact hJ149_15 _ _ _ hI (lv_sub hl [7, 8, 9, 0] rfl)
        · rw [if_neg c106] at hE
          refine lv_iload hx hb dX9_settle_109 (lv_at hl 4 rfl) ?_
          refine lv_iload hx hb dX9_settle_111 (lv_at hl 2 rfl) ?_
          refine lv_icmp_ne (tgt := 123) hx hb dX9_settle_113 (by decide) (fun c113 => ?_) (fun c113 => ?_)
          · rw [if_neg c113] at hE
            refine lv_iload hx hb dX9_settle_123 (lv_at hl 1 rfl) ?_
            refine lv_if_eq (tgt := 135) hx hb dX9_settle_125 (by decide) (fun c125 => ?_) (fun c125 => ?_)
            · rw [if_pos c125] at hE
              refine lv_aload_n hx hb dX9_settle_135 rfl (lv_at hl 7 rfl) ?_
              refine lv_iload_n hx hb dX9_settle_136 rfl (lv_at hl 10 rfl) ?_
              refine lv_iload_n hx hb dX9_settle_137 rfl (lv_at hl 9 rfl) ?_
              refine lv_iload_n hx hb dX9_settle_138 rfl (lv_at hl 10 rfl) ?_
              refine lv_iconst (v := 2) hx hb dX9_settle_139 (by decide) ?_
              obtain ⟨x18, hZ, hE⟩ := bd1_some hE
              have hJ149_18 : ∀ (H : Heap) (locs : List Loc) (ls : Array Slot), xI D (va_A (wY A cI u) s.heap.size) s.heap (wY A cI u) H locs → lv_has ls 11 [(0, .ref (A 0)), (1, .int p1), (2, .int p2), (10, .int v2)] → W p l e (rmOf 1 23) s m ([.ref (A 0), .int p1, .int p2, .int p3] : List Value).toArray below meth c H locs 0 0 (xQ D (tyL cI cZ cD) below ([.ref (A 0), .int p1, .int p2, .int p3] : List Value).toArray s (wY A cI u) none (wY A cI u1)) (F0 m 149 ls [.int x18, .int p2, .int p3, .ref (A 0)]) := by
                intro H locs ls hI hl
                clear hZ
                obtain ⟨mu20, hc, hE⟩ := bd1_some hE
                refine xc_V0 (rest := []) (c_X9_conflict hc) mw_X9_conflict km_X9_157 hx hb hml hown hG hI xA_of (wG_atE (by omega) eY_0) rfl rfl ⟨Nat.le_of_ble_eq_true rfl, Nat.le_of_ble_eq_true rfl⟩ rfl hl.1 rfl (Nat.le_of_ble_eq_true rfl) dX9_settle_149 (fun H locs hI => ?_)
                obtain ⟨rfl, rfl⟩ := sm2 hE
                exact hJ152_8 _ _ _ hI (lv_sub hl [0, 1, 2, 3] rfl)
              replace hE := hZ
              clear hZ
              refine lv_icmp_ne (tgt := 148) hx hb dX9_settle_140 (by decide) (fun c140 => ?_) (fun c140 => ?_)
              · rw [if_neg c140] at hE
                refine lv_iload_n hx hb dX9_settle_148 rfl (lv_at hl 9 rfl) ?_
                obtain rfl := sm1 hE
                exact hJ149_18 _ _ _ hI (lv_sub hl [7, 8, 9, 0] rfl)
              · rw [if_pos c140] at hE
                refine lv_iload hx hb dX9_settle_143 (lv_at hl 3 rfl) ?_
                refine lv_goto (tgt := 149) hx hb dX9_settle_145 (by decide) ?_
                obtain rfl := sm1 hE
                exact hJ149_18 _ _ _ hI (lv_sub hl [7, 8, 9, 0] rfl)
            · rw [if_neg c125] at hE
              refine lv_iload hx hb dX9_settle_128 (lv_at hl 3 rfl) ?_
              refine lv_iload hx hb dX9_settle_130 (lv_at hl 2 rfl) ?_
              refine lv_icmp_eq (tgt := 152) hx hb dX9_settle_132 (by decide) (fun c132 => ?_) (fun c132 => ?_)
              · rw [if_pos c132] at hE
                obtain ⟨rfl, rfl⟩ := sm2 hE
                exact hJ152_8 _ _ _ hI (lv_sub hl [7, 8, 9, 0] rfl)
              · rw [if_neg c132] at hE
                refine lv_aload_n hx hb dX9_settle_135 rfl (lv_at hl 7 rfl) ?_
                refine lv_iload_n hx hb dX9_settle_136 rfl (lv_at hl 10 rfl) ?_
                refine lv_iload_n hx hb dX9_settle_137 rfl (lv_at hl 9 rfl) ?_
                refine lv_iload_n hx hb dX9_settle_138 rfl (lv_at hl 10 rfl) ?_
                refine lv_iconst (v := 2) hx hb dX9_settle_139 (by decide) ?_
                obtain ⟨x21, hZ, hE⟩ := bd1_some hE
                have hJ149_21 : ∀ (H : Heap) (locs : List Loc) (ls : Array Slot), xI D (va_A (wY A cI u) s.heap.size) s.heap (wY A cI u) H locs → lv_has ls 11 [(0, .ref (A 0)), (1, .int p1), (2, .int p2), (10, .int v2)] → W p l e (rmOf 1 23) s m ([.ref (A 0), .int p1, .int p2, .int p3] : List Value).toArray below meth c H locs 0 0 (xQ D (tyL cI cZ cD) below ([.ref (A 0), .int p1, .int p2, .int p3] : List Value).toArray s (wY A cI u) none (wY A cI u1)) (F0 m 149 ls [.int x21, .int p2, .int p3, .ref (A 0)]) := by
                  intro H locs ls hI hl
                  clear hZ
                  obtain ⟨mu23, hc, hE⟩ := bd1_some hE
                  refine xc_V0 (rest := []) (c_X9_conflict hc) mw_X9_conflict km_X9_157 hx hb hml hown hG hI xA_of (wG_atE (by omega) eY_0) rfl rfl ⟨Nat.le_of_ble_eq_true rfl, Nat.le_of_ble_eq_true rfl⟩ rfl hl.1 rfl (Nat.le_of_ble_eq_true rfl) dX9_settle_149 (fun H locs hI => ?_)
                  obtain ⟨rfl, rfl⟩ := sm2 hE
                  exact hJ152_8 _ _ _ hI (lv_sub hl [0, 1, 2, 3] rfl)
                replace hE := hZ
                clear hZ
                refine lv_icmp_ne (tgt := 148) hx hb dX9_settle_140 (by decide) (fun c140 => ?_) (fun c140 => ?_)
                · rw [if_neg c140] at hE
                  refine lv_iload_n hx hb dX9_settle_148 rfl (lv_at hl 9 rfl) ?_
                  obtain rfl := sm1 hE
                  exact hJ149_21 _ _ _ hI (lv_sub hl [7, 8, 9, 0] rfl)
                · rw [if_pos c140] at hE
                  refine lv_iload hx hb dX9_settle_143 (lv_at hl 3 rfl) ?_
                  refine lv_goto (tgt := 149) hx hb dX9_settle_145 (by decide) ?_
                  obtain rfl := sm1 hE
                  exact hJ149_21 _ _ _ hI (lv_sub hl [7, 8, 9, 0] rfl)
          · rw [if_pos c113] at hE
            refine lv_iload hx hb dX9_settle_116 (lv_at hl 3 rfl) ?_
            refine lv_istore (lv' := [(10, .int v3), (9, .int (b2i r5)), (8, .int v4), (7, .int v3), (6, .int v2), (5, .int (3 - v1)), (4, .int v1), (0, .ref (A 0)), (1, .int p1), (2, .int p2), (3, .int p3)]) hx hb dX9_settle_118 hl (by decide) rfl (fun ls hl => ?_)
            refine lv_goto (tgt := 152) hx hb dX9_settle_120 (by decide) ?_
            obtain ⟨rfl, rfl⟩ := sm2 hE
            exact hJ152_8 _ _ _ hI (lv_sub hl [7, 8, 9, 0] rfl)
  · rw [if_pos c77] at hE
    refine lv_iload hx hb dX9_settle_80 (lv_at hl 3 rfl) ?_
    refine lv_istore (lv' := [(10, .int v3), (9, .int (b2i r5)), (8, .int v4), (7, .int v3), (6, .int v2), (5, .int (3 - v1)), (4, .int v1), (0, .ref (A 0)), (1, .int p1), (2, .int p2), (3, .int p3)]) hx hb dX9_settle_82 hl (by decide) rfl (fun ls hl => ?_)
    refine lv_goto (tgt := 152) hx hb dX9_settle_84 (by decide) ?_
    obtain ⟨rfl, rfl⟩ := sm2 hE
    exact hJ152_8 _ _ _ hI (lv_sub hl [7, 8, 9, 0] rfl)
def X9_nearest_L2 (u : Mem) : Nat → Int32 → Option (Int32)
  | 0, _ => none
  | n2 + 1, x1 =>
    (X9_isIn u 3 x1 : Option Bool).bind fun (r4 : Bool) => (if (b2i r4) = 0 then (X9_parentOf u 0 x1 : Option Int32).bind fun (r5 : Int32) => X9_nearest_L2 u n2 r5 else some x1)
def X9_nearest (u : Mem) (p1 : Int32) : Option (Int32) :=
  (X9_nearest_L2 u fu p1 : Option Int32).bind fun (x2 : Int32) => some x2
set_option maxHeartbeats 4000000 in
set_option maxRecDepth 100000 in
theorem c_X9_nearest {l : Launch} {D : va_G} {A : Nat → Nat} {cI cZ cD : ClassId} {u : Mem} {p1 : Int32} {r : Int32}  (hE : X9_nearest u p1 = some (r)) : Ct l yX9_nearest cX9_nearest 3 (some .int) (rmOf 1 22) D (tyL cI cZ cD) [.ref (A 0), .int p1] (wY A cI u) (some (.int r)) (wY A cI u) := by
  refine Ct.ofW (by decide +kernel) (fun p e s m below meth c hC hI => ?_)
  obtain ⟨hx, hb, hml, hown, hr, hlk, hG⟩ := hC
  have hown : s.vm.findClass RX9 = some m.cls := hown
  have hl := lv_entry ([.ref (A 0), .int p1] : List Value) (n := 3) (Nat.le_of_ble_eq_true rfl)
  rw [lg_entry_eq]
  generalize (lg_sl ([.ref (A 0), .int p1] : List Value) ++ List.replicate (3 - (lg_sl ([.ref (A 0), .int p1] : List Value)).length) Slot.unset).toArray = ls at hl ⊢
  have hl : lv_has ls 3 [(0, .ref (A 0)), (1, .int p1)] := hl
  unfold X9_nearest at hE
  refine lv_iload_n hx hb dX9_nearest_0 rfl (lv_at hl 1 rfl) ?_
  refine lv_istore_n (lv' := [(2, .int p1), (0, .ref (A 0)), (1, .int p1)]) hx hb dX9_nearest_1 rfl hl (by decide) rfl (fun ls hl => ?_)
  obtain ⟨x2, hZ, hE⟩ := bd1_some hE
  have hX2_2 : ∀ (H : Heap) (locs : List Loc) (ls : Array Slot), xI D (va_A (wY A cI u) s.heap.size) s.heap (wY A cI u) H locs → lv_has ls 3 [(2, .int x2)] → W p l e (rmOf 1 22) s m ([.ref (A 0), .int p1] : List Value).toArray below meth c H locs 0 0 (xQ D (tyL cI cZ cD) below ([.ref (A 0), .int p1] : List Value).toArray s (wY A cI u) (some (.int r)) (wY A cI u)) (F0 m 21 ls []) := by
    intro H locs ls hI hl
    clear hZ
    refine lv_iload_n hx hb dX9_nearest_21 rfl (lv_at hl 0 rfl) ?_
    obtain rfl := sm1 hE
    exact xr_i hx hb hr hlk hG hI dX9_nearest_22
  replace hE := hZ
  clear hZ
  have hL2 : ∀ (n2 : Nat) (x1 : Int32) (H : Heap) (locs : List Loc) (ls : Array Slot), X9_nearest_L2 u n2 x1 = some x2 → xI D (va_A (wY A cI u) s.heap.size) s.heap (wY A cI u) H locs → lv_has ls 3 [(0, .ref (A 0)), (2, .int x1)] → W p l e (rmOf 1 22) s m ([.ref (A 0), .int p1] : List Value).toArray below meth c H locs 0 0 (xQ D (tyL cI cZ cD) below ([.ref (A 0), .int p1] : List Value).toArray s (wY A cI u) (some (.int r)) (wY A cI u)) (F0 m 2 ls []) := by
    intro n2
    induction n2 with
    | zero =>
      intro x1 H locs ls hE
      exact absurd hE (by simp [X9_nearest_L2])
    | succ n2 ih2 =>
      intro x1 H locs ls hE hI hl
      rw [X9_nearest_L2] at hE
      refine lv_aload_n hx hb dX9_nearest_2 rfl (lv_at hl 0 rfl) ?_
      refine lv_iconst (v := 3) hx hb dX9_nearest_3 (by decide) ?_
      refine lv_iload_n hx hb dX9_nearest_4 rfl (lv_at hl 1 rfl) ?_
      obtain ⟨r4, hc, hE⟩ := bd1_some hE
      refine xc_V1 (rest := []) (c_X9_isIn hc) mw_X9_isIn km_X9_72 hx hb hml hown hG hI xA_of (wG_atE (by omega) eY_0) rfl rfl ⟨Nat.le_of_ble_eq_true rfl, Nat.le_of_ble_eq_true rfl⟩ rfl hl.1 rfl (Nat.le_of_ble_eq_true rfl) dX9_nearest_5 (fun H locs hI => ?_)
      refine lv_if_ne (tgt := 21) hx hb dX9_nearest_8 (by decide) (fun c8 => ?_) (fun c8 => ?_)
      · rw [if_neg c8] at hE
        obtain rfl := sm1 hE
        exact hX2_2 _ _ _ hI (lv_sub hl [1] rfl)
      · rw [if_pos c8] at hE
        refine lv_aload_n hx hb dX9_nearest_11 rfl (lv_at hl 0 rfl) ?_
        refine lv_iconst (v := 0) hx hb dX9_nearest_12 (by decide) ?_
        refine lv_iload_n hx hb dX9_nearest_13 rfl (lv_at hl 1 rfl) ?_
        obtain ⟨r5, hc, hE⟩ := bd1_some hE
        refine xc_V1 (rest := []) (c_X9_parentOf hc) mw_X9_parentOf km_X9_76 hx hb hml hown hG hI xA_of (wG_atE (by omega) eY_0) rfl rfl ⟨Nat.le_of_ble_eq_true rfl, Nat.le_of_ble_eq_true rfl⟩ rfl hl.1 rfl (Nat.le_of_ble_eq_true rfl) dX9_nearest_14 (fun H locs hI => ?_)
        refine lv_istore_n (lv' := [(2, .int r5), (0, .ref (A 0))]) hx hb dX9_nearest_17 rfl hl (by decide) rfl (fun ls hl => ?_)
        refine lv_goto (tgt := 2) hx hb dX9_nearest_18 (by decide) ?_
        exact ih2 _ _ _ _ hE hI (lv_sub hl [1, 0] rfl)
  exact hL2 _ _ _ _ _ hE hI (lv_sub hl [1, 0] rfl)
def X9_isOnRing_L4 (p1 : Int32) (u : Mem) : Nat → Int32 → Int32 → Option (Bool)
  | 0, _, _ => none
  | n4 + 1, x1, x2 =>
    (if 16 ≤ x2 then some false else ((if 0 < x1 then (X9_parentOf u 3 x1 : Option Int32).bind fun (r5 : Int32) => some r5 else some 0) : Option Int32).bind fun (x3 : Int32) => (if x3 = p1 then (if p1 ≤ 0 then X9_isOnRing_L4 p1 u n4 x3 (x2 + 1) else some true) else X9_isOnRing_L4 p1 u n4 x3 (x2 + 1)))
def X9_isOnRing (u : Mem) (p1 : Int32) : Option (Bool) :=
  X9_isOnRing_L4 p1 u fu p1 0
set_option maxHeartbeats 4000000 in
set_option maxRecDepth 100000 in
theorem c_X9_isOnRing {l : Launch} {D : va_G} {A : Nat → Nat} {cI cZ cD : ClassId} {u : Mem} {p1 : Int32} {r : Bool}  (hE : X9_isOnRing u p1 = some (r)) : Ct l yX9_isOnRing cX9_isOnRing 4 (some .boolean) (rmOf 1 22) D (tyL cI cZ cD) [.ref (A 0), .int p1] (wY A cI u) (some (.int (b2i r))) (wY A cI u) := by
  refine Ct.ofW (by decide +kernel) (fun p e s m below meth c hC hI => ?_)
  obtain ⟨hx, hb, hml, hown, hr, hlk, hG⟩ := hC
  have hown : s.vm.findClass RX9 = some m.cls := hown
  have hl := lv_entry ([.ref (A 0), .int p1] : List Value) (n := 4) (Nat.le_of_ble_eq_true rfl)
  rw [lg_entry_eq]
  generalize (lg_sl ([.ref (A 0), .int p1] : List Value) ++ List.replicate (4 - (lg_sl ([.ref (A 0), .int p1] : List Value)).length) Slot.unset).toArray = ls at hl ⊢
  have hl : lv_has ls 4 [(0, .ref (A 0)), (1, .int p1)] := hl
  unfold X9_isOnRing at hE
  refine lv_iload_n hx hb dX9_isOnRing_0 rfl (lv_at hl 1 rfl) ?_
  refine lv_istore_n (lv' := [(2, .int p1), (0, .ref (A 0)), (1, .int p1)]) hx hb dX9_isOnRing_1 rfl hl (by decide) rfl (fun ls hl => ?_)
  refine lv_iconst (v := 0) hx hb dX9_isOnRing_2 (by decide) ?_
  refine lv_istore_n (lv' := [(3, .int 0), (2, .int p1), (0, .ref (A 0)), (1, .int p1)]) hx hb dX9_isOnRing_3 rfl hl (by decide) rfl (fun ls hl => ?_)
  have hL4 : ∀ (n4 : Nat) (x1 : Int32) (x2 : Int32) (H : Heap) (locs : List Loc) (ls : Array Slot), X9_isOnRing_L4 p1 u n4 x1 x2 = some r → xI D (va_A (wY A cI u) s.heap.size) s.heap (wY A cI u) H locs → lv_has ls 4 [(0, .ref (A 0)), (1, .int p1), (2, .int x1), (3, .int x2)] → W p l e (rmOf 1 22) s m ([.ref (A 0), .int p1] : List Value).toArray below meth c H locs 0 0 (xQ D (tyL cI cZ cD) below ([.ref (A 0), .int p1] : List Value).toArray s (wY A cI u) (some (.int (b2i r))) (wY A cI u)) (F0 m 4 ls []) := by
    intro n4
    induction n4 with
    | zero =>
      intro x1 x2 H locs ls hE
      exact absurd hE (by simp [X9_isOnRing_L4])
    | succ n4 ih4 =>
      intro x1 x2 H locs ls hE hI hl
      rw [X9_isOnRing_L4] at hE
      refine lv_iload_n hx hb dX9_isOnRing_4 rfl (lv_at hl 3 rfl) ?_
      refine lv_bipush (v := 16) hx hb dX9_isOnRing_5 (by decide) ?_
      refine lv_icmp_ge (tgt := 42) hx hb dX9_isOnRing_7 (by decide) (fun c7 => ?_) (fun c7 => ?_)
      · rw [if_pos c7] at hE
        refine lv_iconst (v := 0) hx hb dX9_isOnRing_42 (by decide) ?_
        obtain rfl := sm1 hE
        exact xr_z rfl hx hb hr hlk hG hI dX9_isOnRing_43
      · rw [if_neg c7] at hE
        refine lv_iload_n hx hb dX9_isOnRing_10 rfl (lv_at hl 2 rfl) ?_
        obtain ⟨x3, hZ, hE⟩ := bd1_some hE
        have hJ24_3 : ∀ (H : Heap) (locs : List Loc) (ls : Array Slot), xI D (va_A (wY A cI u) s.heap.size) s.heap (wY A cI u) H locs → lv_has ls 4 [(0, .ref (A 0)), (1, .int p1), (3, .int x2)] → W p l e (rmOf 1 22) s m ([.ref (A 0), .int p1] : List Value).toArray below meth c H locs 0 0 (xQ D (tyL cI cZ cD) below ([.ref (A 0), .int p1] : List Value).toArray s (wY A cI u) (some (.int (b2i r))) (wY A cI u)) (F0 m 24 ls [.int x3]) := by
          intro H locs ls hI hl
          clear hZ
          refine lv_istore_n (lv' := [(2, .int x3), (0, .ref (A 0)), (1, .int p1), (3, .int x2)]) hx hb dX9_isOnRing_24 rfl hl (by decide) rfl (fun ls hl => ?_)
          refine lv_iload_n hx hb dX9_isOnRing_25 rfl (lv_at hl 0 rfl) ?_
          refine lv_iload_n hx hb dX9_isOnRing_26 rfl (lv_at hl 2 rfl) ?_
          refine lv_icmp_ne (tgt := 36) hx hb dX9_isOnRing_27 (by decide) (fun c27 => ?_) (fun c27 => ?_)
          · rw [if_neg c27] at hE
            refine lv_iinc (v := x2 + 1) (lv' := [(3, .int (x2 + 1)), (2, .int x3), (0, .ref (A 0)), (1, .int p1)]) hx hb dX9_isOnRing_36 hl (k := 3) rfl rfl (by decide) rfl (fun ls hl => ?_)
            refine lv_goto (tgt := 4) hx hb dX9_isOnRing_39 (by decide) ?_
            exact ih4 _ _ _ _ _ hE hI (lv_sub hl [2, 3, 1, 0] rfl)
          · rw [if_pos c27] at hE
            refine lv_iload_n hx hb dX9_isOnRing_30 rfl (lv_at hl 2 rfl) ?_
            refine lv_if_le (tgt := 36) hx hb dX9_isOnRing_31 (by decide) (fun c31 => ?_) (fun c31 => ?_)
            · rw [if_pos c31] at hE
              refine lv_iinc (v := x2 + 1) (lv' := [(3, .int (x2 + 1)), (2, .int x3), (0, .ref (A 0)), (1, .int p1)]) hx hb dX9_isOnRing_36 hl (k := 3) rfl rfl (by decide) rfl (fun ls hl => ?_)
              refine lv_goto (tgt := 4) hx hb dX9_isOnRing_39 (by decide) ?_
              exact ih4 _ _ _ _ _ hE hI (lv_sub hl [2, 3, 1, 0] rfl)
            · rw [if_neg c31] at hE
              refine lv_iconst (v := 1) hx hb dX9_isOnRing_34 (by decide) ?_
              obtain rfl := sm1 hE
              exact xr_z rfl hx hb hr hlk hG hI dX9_isOnRing_35
        replace hE := hZ
        clear hZ
        refine lv_if_gt (tgt := 18) hx hb dX9_isOnRing_11 (by decide) (fun c11 => ?_) (fun c11 => ?_)
        · rw [if_pos c11] at hE
          refine lv_aload_n hx hb dX9_isOnRing_18 rfl (lv_at hl 0 rfl) ?_
          refine lv_iconst (v := 3) hx hb dX9_isOnRing_19 (by decide) ?_
          refine lv_iload_n hx hb dX9_isOnRing_20 rfl (lv_at hl 2 rfl) ?_
          obtain ⟨r5, hc, hE⟩ := bd1_some hE
          refine xc_V1 (rest := []) (c_X9_parentOf hc) mw_X9_parentOf km_X9_76 hx hb hml hown hG hI xA_of (wG_atE (by omega) eY_0) rfl rfl ⟨Nat.le_of_ble_eq_true rfl, Nat.le_of_ble_eq_true rfl⟩ rfl hl.1 rfl (Nat.le_of_ble_eq_true rfl) dX9_isOnRing_21 (fun H locs hI => ?_)
          obtain rfl := sm1 hE
          exact hJ24_3 _ _ _ hI (lv_sub hl [0, 1, 3] rfl)
        · rw [if_neg c11] at hE
          refine lv_iconst (v := 0) hx hb dX9_isOnRing_14 (by decide) ?_
          refine lv_goto (tgt := 24) hx hb dX9_isOnRing_15 (by decide) ?_
          obtain rfl := sm1 hE
          exact hJ24_3 _ _ _ hI (lv_sub hl [0, 1, 3] rfl)
  exact hL4 _ _ _ _ _ _ hE hI (lv_sub hl [2, 3, 1, 0] rfl)
def X9_ringFrom_L4 (p1 : Int32) (u : Mem) : Nat → Int32 → Int32 → Option (Int32)
  | 0, _, _ => none
  | n4 + 1, x1, x2 =>
    (X9_parentOf u 3 x2 : Option Int32).bind fun (r5 : Int32) => (if r5 = p1 then some (x1 ||| (1 <<< (x2 &&& 31))) else X9_ringFrom_L4 p1 u n4 (x1 ||| (1 <<< (x2 &&& 31))) r5)
def X9_ringFrom (u : Mem) (p1 : Int32) : Option (Int32) :=
  (X9_ringFrom_L4 p1 u fu 0 p1 : Option Int32).bind fun (x3 : Int32) => some x3
set_option maxHeartbeats 4000000 in
set_option maxRecDepth 100000 in
theorem c_X9_ringFrom {l : Launch} {D : va_G} {A : Nat → Nat} {cI cZ cD : ClassId} {u : Mem} {p1 : Int32} {r : Int32}  (hE : X9_ringFrom u p1 = some (r)) : Ct l yX9_ringFrom cX9_ringFrom 4 (some .int) (rmOf 1 22) D (tyL cI cZ cD) [.ref (A 0), .int p1] (wY A cI u) (some (.int r)) (wY A cI u) := by
  refine Ct.ofW (by decide +kernel) (fun p e s m below meth c hC hI => ?_)
  obtain ⟨hx, hb, hml, hown, hr, hlk, hG⟩ := hC
  have hown : s.vm.findClass RX9 = some m.cls := hown
  have hl := lv_entry ([.ref (A 0), .int p1] : List Value) (n := 4) (Nat.le_of_ble_eq_true rfl)
  rw [lg_entry_eq]
  generalize (lg_sl ([.ref (A 0), .int p1] : List Value) ++ List.replicate (4 - (lg_sl ([.ref (A 0), .int p1] : List Value)).length) Slot.unset).toArray = ls at hl ⊢
  have hl : lv_has ls 4 [(0, .ref (A 0)), (1, .int p1)] := hl
  unfold X9_ringFrom at hE
  refine lv_iconst (v := 0) hx hb dX9_ringFrom_0 (by decide) ?_
  refine lv_istore_n (lv' := [(2, .int 0), (0, .ref (A 0)), (1, .int p1)]) hx hb dX9_ringFrom_1 rfl hl (by decide) rfl (fun ls hl => ?_)
  refine lv_iload_n hx hb dX9_ringFrom_2 rfl (lv_at hl 2 rfl) ?_
  refine lv_istore_n (lv' := [(3, .int p1), (2, .int 0), (0, .ref (A 0)), (1, .int p1)]) hx hb dX9_ringFrom_3 rfl hl (by decide) rfl (fun ls hl => ?_)
  obtain ⟨x3, hZ, hE⟩ := bd1_some hE
  have hX4_3 : ∀ (H : Heap) (locs : List Loc) (ls : Array Slot), xI D (va_A (wY A cI u) s.heap.size) s.heap (wY A cI u) H locs → lv_has ls 4 [(2, .int x3)] → W p l e (rmOf 1 22) s m ([.ref (A 0), .int p1] : List Value).toArray below meth c H locs 0 0 (xQ D (tyL cI cZ cD) below ([.ref (A 0), .int p1] : List Value).toArray s (wY A cI u) (some (.int r)) (wY A cI u)) (F0 m 22 ls []) := by
    intro H locs ls hI hl
    clear hZ
    refine lv_iload_n hx hb dX9_ringFrom_22 rfl (lv_at hl 0 rfl) ?_
    obtain rfl := sm1 hE
    exact xr_i hx hb hr hlk hG hI dX9_ringFrom_23
  replace hE := hZ
  clear hZ
  have hL4 : ∀ (n4 : Nat) (x1 : Int32) (x2 : Int32) (H : Heap) (locs : List Loc) (ls : Array Slot), X9_ringFrom_L4 p1 u n4 x1 x2 = some x3 → xI D (va_A (wY A cI u) s.heap.size) s.heap (wY A cI u) H locs → lv_has ls 4 [(0, .ref (A 0)), (1, .int p1), (2, .int x1), (3, .int x2)] → W p l e (rmOf 1 22) s m ([.ref (A 0), .int p1] : List Value).toArray below meth c H locs 0 0 (xQ D (tyL cI cZ cD) below ([.ref (A 0), .int p1] : List Value).toArray s (wY A cI u) (some (.int r)) (wY A cI u)) (F0 m 4 ls []) := by
    intro n4
    induction n4 with
    | zero =>
      intro x1 x2 H locs ls hE
      exact absurd hE (by simp [X9_ringFrom_L4])
    | succ n4 ih4 =>
      intro x1 x2 H locs ls hE hI hl
      rw [X9_ringFrom_L4] at hE
      refine lv_iload_n hx hb dX9_ringFrom_4 rfl (lv_at hl 2 rfl) ?_
      refine lv_iconst (v := 1) hx hb dX9_ringFrom_5 (by decide) ?_
      refine lv_iload_n hx hb dX9_ringFrom_6 rfl (lv_at hl 3 rfl) ?_
      refine lv_ishl hx hb dX9_ringFrom_7 ?_
      refine lv_ior hx hb dX9_ringFrom_8 ?_
      refine lv_istore_n (lv' := [(2, .int (x1 ||| (1 <<< (x2 &&& 31)))), (0, .ref (A 0)), (1, .int p1), (3, .int x2)]) hx hb dX9_ringFrom_9 rfl hl (by decide) rfl (fun ls hl => ?_)
      refine lv_aload_n hx hb dX9_ringFrom_10 rfl (lv_at hl 1 rfl) ?_
      refine lv_iconst (v := 3) hx hb dX9_ringFrom_11 (by decide) ?_
      refine lv_iload_n hx hb dX9_ringFrom_12 rfl (lv_at hl 3 rfl) ?_
      obtain ⟨r5, hc, hE⟩ := bd1_some hE
      refine xc_V1 (rest := []) (c_X9_parentOf hc) mw_X9_parentOf km_X9_76 hx hb hml hown hG hI xA_of (wG_atE (by omega) eY_0) rfl rfl ⟨Nat.le_of_ble_eq_true rfl, Nat.le_of_ble_eq_true rfl⟩ rfl hl.1 rfl (Nat.le_of_ble_eq_true rfl) dX9_ringFrom_13 (fun H locs hI => ?_)
      refine lv_istore_n (lv' := [(3, .int r5), (2, .int (x1 ||| (1 <<< (x2 &&& 31)))), (0, .ref (A 0)), (1, .int p1)]) hx hb dX9_ringFrom_16 rfl hl (by decide) rfl (fun ls hl => ?_)
      refine lv_iload_n hx hb dX9_ringFrom_17 rfl (lv_at hl 0 rfl) ?_
      refine lv_iload_n hx hb dX9_ringFrom_18 rfl (lv_at hl 3 rfl) ?_
      refine lv_icmp_ne (tgt := 4) hx hb dX9_ringFrom_19 (by decide) (fun c19 => ?_) (fun c19 => ?_)
      · rw [if_neg c19] at hE
        exact ih4 _ _ _ _ _ hE hI (lv_sub hl [2, 3, 1, 0] rfl)
      · rw [if_pos c19] at hE
        obtain rfl := sm1 hE
        exact hX4_3 _ _ _ hI (lv_sub hl [1] rfl)
  exact hL4 _ _ _ _ _ _ hE hI (lv_sub hl [2, 3, 1, 0] rfl)
def X9_breakRings_L58 (v1 : Int32) (x2 : Int32) (mu4 : Mem) (r9 : Int32) : Nat → Int32 → Int32 → Option (Int32)
  | 0, _, _ => none
  | n58 + 1, x10, x11 =>
    (if x11 ≤ 0 then some x10 else ((if ((r9 >>> (x11 &&& 31)) &&& 1) = 1 then (if ((x2 >>> (x11 &&& 31)) &&& 1) = 0 then (X9_isIn mu4 0 x11 : Option Bool).bind fun (r31 : Bool) => (if (b2i r31) = 0 then some 0 else (X9_isIn mu4 (3 - v1) x11 : Option Bool).bind fun (r32 : Bool) => (if (b2i r32) = 0 then some 0 else some 1)) else some 0) else some 0) : Option Int32).bind fun (x25 : Int32) => (if x25 = 0 then X9_breakRings_L58 v1 x2 mu4 r9 n58 x10 (x11 + (-1)) else (X9_parentOf mu4 3 x11 : Option Int32).bind fun (r27 : Int32) => (X9_parentOf mu4 (3 - v1) x11 : Option Int32).bind fun (r28 : Int32) => (if r27 = r28 then (X9_parentOf mu4 (3 - v1) x11 : Option Int32).bind fun (r29 : Int32) => (X9_parentOf mu4 0 x11 : Option Int32).bind fun (r30 : Int32) => (if r29 = r30 then X9_breakRings_L58 v1 x2 mu4 r9 n58 x10 (x11 + (-1)) else X9_breakRings_L58 v1 x2 mu4 r9 n58 x11 (x11 + (-1))) else X9_breakRings_L58 v1 x2 mu4 r9 n58 x10 (x11 + (-1)))))
def X9_breakRings_L15 (v1 : Int32) : Nat → Int32 → Int32 → Mem → Option (Mem)
  | 0, _, _, _ => none
  | n15 + 1, x2, x3, mu4 =>
    (if 16 ≤ x3 then some mu4 else (X9_isIn mu4 3 x3 : Option Bool).bind fun (r7 : Bool) => (if (b2i r7) = 0 then X9_breakRings_L15 v1 n15 x2 (x3 + 1) mu4 else (X9_isOnRing mu4 x3 : Option Bool).bind fun (r8 : Bool) => (if (b2i r8) = 0 then X9_breakRings_L15 v1 n15 x2 (x3 + 1) mu4 else (X9_ringFrom mu4 x3 : Option Int32).bind fun (r9 : Int32) => (X9_breakRings_L58 v1 x2 mu4 r9 fu (-1) 15 : Option Int32).bind fun (x12 : Int32) => ((if x12 = (-1) then some 0 else (X9_parentOf mu4 0 x12 : Option Int32).bind fun (r23 : Int32) => (X9_nearest mu4 r23 : Option Int32).bind fun (r24 : Int32) => some r24) : Option Int32).bind fun (x14 : Int32) => ((if x12 = (-1) then some 0 else some (1 <<< (x12 &&& 31))) : Option Int32).bind fun (x16 : Int32) => ((if x12 = (-1) then some x3 else some x12) : Option Int32).bind fun (x18 : Int32) => (X9_parentOf mu4 3 x18 : Option Int32).bind fun (r20 : Int32) => (X9_conflict mu4 5 x18 r20 : Option Mem).bind fun (mu21 : Mem) => (stI 258 mu21 1 (192 + x18) x14).bind fun mu22 => X9_breakRings_L15 v1 n15 (x2 ||| x16) 1 mu22)))
def X9_breakRings (u : Mem) : Option (Mem) :=
  (rd 258 (u 1) 256).bind fun v1 => (X9_breakRings_L15 v1 fu 0 1 u : Option Mem).bind fun (mu5 : Mem) => some mu5
set_option maxHeartbeats 4000000 in
set_option maxRecDepth 100000 in
theorem c_X9_breakRings {l : Launch} {D : va_G} {A : Nat → Nat} {cI cZ cD : ClassId} {u u1 : Mem}  (hE : X9_breakRings u = some (u1)) : Ct l yX9_breakRings cX9_breakRings 8 none (rmOf 2 45) D (tyL cI cZ cD) [.ref (A 0)] (wY A cI u) none (wY A cI u1) := by
  refine Ct.ofW (by decide +kernel) (fun p e s m below meth c hC hI => ?_)
  obtain ⟨hx, hb, hml, hown, hr, hlk, hG⟩ := hC
  have hown : s.vm.findClass RX9 = some m.cls := hown
  have hl := lv_entry ([.ref (A 0)] : List Value) (n := 8) (Nat.le_of_ble_eq_true rfl)
  rw [lg_entry_eq]
  generalize (lg_sl ([.ref (A 0)] : List Value) ++ List.replicate (8 - (lg_sl ([.ref (A 0)] : List Value)).length) Slot.unset).toArray = ls at hl ⊢
  have hl : lv_has ls 8 [(0, .ref (A 0))] := hl
  unfold X9_breakRings at hE
  refine lv_iconst (v := 3) hx hb dX9_breakRings_0 (by decide) ?_
  refine lv_aload_n hx hb dX9_breakRings_1 rfl (lv_at hl 0 rfl) ?_
  refine xg_get (C := RX9) (T := TX9) (M := 22) hx hb hown hG hI (by omega) eY_0 rfl inX9 0 (by decide) kf_X9_7 rfl dX9_breakRings_2 ?_
  refine lv_sipush (v := 256) hx hb dX9_breakRings_5 (by decide) ?_
  obtain ⟨v1, hv, hE⟩ := bd1_some hE
  refine xg_iald 0 hx hb hG hI (by omega) eY_1 rfl hv dX9_breakRings_8 ?_
  refine lv_isub hx hb dX9_breakRings_9 ?_
  refine lv_istore_n (lv' := [(1, .int (3 - v1)), (0, .ref (A 0))]) hx hb dX9_breakRings_10 rfl hl (by decide) rfl (fun ls hl => ?_)
  refine lv_iconst (v := 0) hx hb dX9_breakRings_11 (by decide) ?_
  refine lv_istore_n (lv' := [(2, .int 0), (1, .int (3 - v1)), (0, .ref (A 0))]) hx hb dX9_breakRings_12 rfl hl (by decide) rfl (fun ls hl => ?_)
  refine lv_iconst (v := 1) hx hb dX9_breakRings_13 (by decide) ?_
  refine lv_istore_n (lv' := [(3, .int 1), (2, .int 0), (1, .int (3 - v1)), (0, .ref (A 0))]) hx hb dX9_breakRings_14 rfl hl (by decide) rfl (fun ls hl => ?_)
  obtain ⟨mu5, hZ, hE⟩ := bd1_some hE
  have hX15_5 : ∀ (H : Heap) (locs : List Loc) (ls : Array Slot), xI D (va_A (wY A cI u) s.heap.size) s.heap (wY A cI mu5) H locs → lv_has ls 8 [] → W p l e (rmOf 2 45) s m ([.ref (A 0)] : List Value).toArray below meth c H locs 0 0 (xQ D (tyL cI cZ cD) below ([.ref (A 0)] : List Value).toArray s (wY A cI u) none (wY A cI u1)) (F0 m 250 ls []) := by
    intro H locs ls hI hl
    clear hZ
    obtain rfl := sm1 hE
    exact xr_v hx hb hr hlk hG hI dX9_breakRings_250
  replace hE := hZ
  clear hZ
  have hL15 : ∀ (n15 : Nat) (x2 : Int32) (x3 : Int32) (mu4 : Mem) (H : Heap) (locs : List Loc) (ls : Array Slot), X9_breakRings_L15 v1 n15 x2 x3 mu4 = some mu5 → xI D (va_A (wY A cI u) s.heap.size) s.heap (wY A cI mu4) H locs → lv_has ls 8 [(0, .ref (A 0)), (1, .int (3 - v1)), (2, .int x2), (3, .int x3)] → W p l e (rmOf 2 45) s m ([.ref (A 0)] : List Value).toArray below meth c H locs 0 0 (xQ D (tyL cI cZ cD) below ([.ref (A 0)] : List Value).toArray s (wY A cI u) none (wY A cI u1)) (F0 m 15 ls []) := by
    intro n15
    induction n15 with
    | zero =>
      intro x2 x3 mu4 H locs ls hE
      exact absurd hE (by simp [X9_breakRings_L15])
    | succ n15 ih15 =>
      intro x2 x3 mu4 H locs ls hE hI hl
      rw [X9_breakRings_L15] at hE
      refine lv_iload_n hx hb dX9_breakRings_15 rfl (lv_at hl 3 rfl) ?_
      refine lv_bipush (v := 16) hx hb dX9_breakRings_16 (by decide) ?_
      refine lv_icmp_ge (tgt := 250) hx hb dX9_breakRings_18 (by decide) (fun c18 => ?_) (fun c18 => ?_)
      · rw [if_pos c18] at hE
        obtain rfl := sm1 hE
        exact hX15_5 _ _ _ hI (lv_sub hl [] rfl)
      · rw [if_neg c18] at hE
        refine lv_aload_n hx hb dX9_breakRings_21 rfl (lv_at hl 0 rfl) ?_
        refine lv_iconst (v := 3) hx hb dX9_breakRings_22 (by decide) ?_
        refine lv_iload_n hx hb dX9_breakRings_23 rfl (lv_at hl 3 rfl) ?_
        obtain ⟨r7, hc, hE⟩ := bd1_some hE
        refine xc_V1 (rest := []) (c_X9_isIn hc) mw_X9_isIn km_X9_72 hx hb hml hown hG hI xA_of (wG_atE (by omega) eY_0) rfl rfl ⟨Nat.le_of_ble_eq_true rfl, Nat.le_of_ble_eq_true rfl⟩ rfl hl.1 rfl (Nat.le_of_ble_eq_true rfl) dX9_breakRings_24 (fun H locs hI => ?_)
        refine lv_if_eq (tgt := 38) hx hb dX9_breakRings_27 (by decide) (fun c27 => ?_) (fun c27 => ?_)
        · rw [if_pos c27] at hE
          refine lv_iinc (v := x3 + 1) (lv' := [(3, .int (x3 + 1)), (0, .ref (A 0)), (1, .int (3 - v1)), (2, .int x2)]) hx hb dX9_breakRings_38 hl (k := 3) rfl rfl (by decide) rfl (fun ls hl => ?_)
          refine lv_goto (tgt := 15) hx hb dX9_breakRings_41 (by decide) ?_
          exact ih15 _ _ _ _ _ _ hE hI (lv_sub hl [1, 2, 3, 0] rfl)
        · rw [if_neg c27] at hE
          refine lv_aload_n hx hb dX9_breakRings_30 rfl (lv_at hl 0 rfl) ?_
          refine lv_iload_n hx hb dX9_breakRings_31 rfl (lv_at hl 3 rfl) ?_
          obtain ⟨r8, hc, hE⟩ := bd1_some hE
          refine xc_V1 (rest := []) (c_X9_isOnRing hc) mw_X9_isOnRing km_X9_161 hx hb hml hown hG hI xA_of (wG_atE (by omega) eY_0) rfl rfl ⟨Nat.le_of_ble_eq_true rfl, Nat.le_of_ble_eq_true rfl⟩ rfl hl.1 rfl (Nat.le_of_ble_eq_true rfl) dX9_breakRings_32 (fun H locs hI => ?_)
          refine lv_if_ne (tgt := 44) hx hb dX9_breakRings_35 (by decide) (fun c35 => ?_) (fun c35 => ?_)
          · rw [if_neg c35] at hE
            refine lv_aload_n hx hb dX9_breakRings_44 rfl (lv_at hl 0 rfl) ?_
            refine lv_iload_n hx hb dX9_breakRings_45 rfl (lv_at hl 3 rfl) ?_
            obtain ⟨r9, hc, hE⟩ := bd1_some hE
            refine xc_V1 (rest := []) (c_X9_ringFrom hc) mw_X9_ringFrom km_X9_164 hx hb hml hown hG hI xA_of (wG_atE (by omega) eY_0) rfl rfl ⟨Nat.le_of_ble_eq_true rfl, Nat.le_of_ble_eq_true rfl⟩ rfl hl.1 rfl (Nat.le_of_ble_eq_true rfl) dX9_breakRings_46 (fun H locs hI => ?_)
            refine lv_istore (lv' := [(4, .int r9), (0, .ref (A 0)), (1, .int (3 - v1)), (2, .int x2), (3, .int x3)]) hx hb dX9_breakRings_49 hl (by decide) rfl (fun ls hl => ?_)
            refine lv_iconst (v := (-1)) hx hb dX9_breakRings_51 (by decide) ?_
            refine lv_istore (lv' := [(5, .int (-1)), (4, .int r9), (0, .ref (A 0)), (1, .int (3 - v1)), (2, .int x2), (3, .int x3)]) hx hb dX9_breakRings_52 hl (by decide) rfl (fun ls hl => ?_)
            refine lv_bipush (v := 15) hx hb dX9_breakRings_54 (by decide) ?_
            refine lv_istore (lv' := [(6, .int 15), (5, .int (-1)), (4, .int r9), (0, .ref (A 0)), (1, .int (3 - v1)), (2, .int x2), (3, .int x3)]) hx hb dX9_breakRings_56 hl (by decide) rfl (fun ls hl => ?_)
            obtain ⟨x12, hZ, hE⟩ := bd1_some hE
            have hX58_12 : ∀ (H : Heap) (locs : List Loc) (ls : Array Slot), xI D (va_A (wY A cI u) s.heap.size) s.heap (wY A cI mu4) H locs → lv_has ls 8 [(0, .ref (A 0)), (1, .int (3 - v1)), (2, .int x2), (3, .int x3), (5, .int x12)] → W p l e (rmOf 2 45) s m ([.ref (A 0)] : List Value).toArray below meth c H locs 0 0 (xQ D (tyL cI cZ cD) below ([.ref (A 0)] : List Value).toArray s (wY A cI u) none (wY A cI u1)) (F0 m 164 ls []) := by
              intro H locs ls hI hl
              clear hZ
              refine lv_iload hx hb dX9_breakRings_164 (lv_at hl 4 rfl) ?_
              refine lv_iconst (v := (-1)) hx hb dX9_breakRings_166 (by decide) ?_
              obtain ⟨x14, hZ, hE⟩ := bd1_some hE
              have hJ185_14 : ∀ (H : Heap) (locs : List Loc) (ls : Array Slot), xI D (va_A (wY A cI u) s.heap.size) s.heap (wY A cI mu4) H locs → lv_has ls 8 [(0, .ref (A 0)), (1, .int (3 - v1)), (2, .int x2), (3, .int x3), (5, .int x12)] → W p l e (rmOf 2 45) s m ([.ref (A 0)] : List Value).toArray below meth c H locs 0 0 (xQ D (tyL cI cZ cD) below ([.ref (A 0)] : List Value).toArray s (wY A cI u) none (wY A cI u1)) (F0 m 185 ls [.int x14]) := by
                intro H locs ls hI hl
                clear hZ
                refine lv_istore (lv' := [(6, .int x14), (0, .ref (A 0)), (1, .int (3 - v1)), (2, .int x2), (3, .int x3), (5, .int x12)]) hx hb dX9_breakRings_185 hl (by decide) rfl (fun ls hl => ?_)
                refine lv_iload_n hx hb dX9_breakRings_187 rfl (lv_at hl 3 rfl) ?_
                refine lv_iload hx hb dX9_breakRings_188 (lv_at hl 5 rfl) ?_
                refine lv_iconst (v := (-1)) hx hb dX9_breakRings_190 (by decide) ?_
                obtain ⟨x16, hZ, hE⟩ := bd1_some hE
                have hJ202_16 : ∀ (H : Heap) (locs : List Loc) (ls : Array Slot), xI D (va_A (wY A cI u) s.heap.size) s.heap (wY A cI mu4) H locs → lv_has ls 8 [(0, .ref (A 0)), (1, .int (3 - v1)), (3, .int x3), (5, .int x12), (6, .int x14)] → W p l e (rmOf 2 45) s m ([.ref (A 0)] : List Value).toArray below meth c H locs 0 0 (xQ D (tyL cI cZ cD) below ([.ref (A 0)] : List Value).toArray s (wY A cI u) none (wY A cI u1)) (F0 m 202 ls [.int x16, .int x2]) := by
                  intro H locs ls hI hl
                  clear hZ
                  refine lv_ior hx hb dX9_breakRings_202 ?_
                  refine lv_istore_n (lv' := [(2, .int (x2 ||| x16)), (0, .ref (A 0)), (1, .int (3 - v1)), (3, .int x3), (5, .int x12), (6, .int x14)]) hx hb dX9_breakRings_203 rfl hl (by decide) rfl (fun ls hl => ?_)
                  refine lv_iload hx hb dX9_breakRings_204 (lv_at hl 4 rfl) ?_
                  refine lv_iconst (v := (-1)) hx hb dX9_breakRings_206 (by decide) ?_
                  obtain ⟨x18, hZ, hE⟩ := bd1_some hE
                  have hJ216_18 : ∀ (H : Heap) (locs : List Loc) (ls : Array Slot), xI D (va_A (wY A cI u) s.heap.size) s.heap (wY A cI mu4) H locs → lv_has ls 8 [(0, .ref (A 0)), (1, .int (3 - v1)), (2, .int (x2 ||| x16)), (6, .int x14)] → W p l e (rmOf 2 45) s m ([.ref (A 0)] : List Value).toArray below meth c H locs 0 0 (xQ D (tyL cI cZ cD) below ([.ref (A 0)] : List Value).toArray s (wY A cI u) none (wY A cI u1)) (F0 m 216 ls [.int x18]) := by
                    intro H locs ls hI hl
                    clear hZ
                    refine lv_istore (lv' := [(5, .int x18), (0, .ref (A 0)), (1, .int (3 - v1)), (2, .int (x2 ||| x16)), (6, .int x14)]) hx hb dX9_breakRings_216 hl (by decide) rfl (fun ls hl => ?_)
                    refine lv_aload_n hx hb dX9_breakRings_218 rfl (lv_at hl 1 rfl) ?_
                    refine lv_iconst (v := 5) hx hb dX9_breakRings_219 (by decide) ?_
                    refine lv_iload hx hb dX9_breakRings_220 (lv_at hl 0 rfl) ?_
                    refine lv_aload_n hx hb dX9_breakRings_222 rfl (lv_at hl 1 rfl) ?_
                    refine lv_iconst (v := 3) hx hb dX9_breakRings_223 (by decide) ?_
                    refine lv_iload hx hb dX9_breakRings_224 (lv_at hl 0 rfl) ?_
                    obtain ⟨r20, hc, hE⟩ := bd1_some hE
                    refine xc_V1 (rest := [.int x18, .int 5, .ref (A 0)]) (c_X9_parentOf hc) mw_X9_parentOf km_X9_76 hx hb hml hown hG hI xA_of (wG_atE (by omega) eY_0) rfl rfl ⟨Nat.le_of_ble_eq_true rfl, Nat.le_of_ble_eq_true rfl⟩ rfl hl.1 rfl (Nat.le_of_ble_eq_true rfl) dX9_breakRings_226 (fun H locs hI => ?_)
                    obtain ⟨mu21, hc, hE⟩ := bd1_some hE
                    refine xc_V0 (rest := []) (c_X9_conflict hc) mw_X9_conflict km_X9_157 hx hb hml hown hG hI xA_of (wG_atE (by omega) eY_0) rfl rfl ⟨Nat.le_of_ble_eq_true rfl, Nat.le_of_ble_eq_true rfl⟩ rfl hl.1 rfl (Nat.le_of_ble_eq_true rfl) dX9_breakRings_229 (fun H locs hI => ?_)
                    refine lv_aload_n hx hb dX9_breakRings_232 rfl (lv_at hl 1 rfl) ?_
                    refine xg_get (C := RX9) (T := TX9) (M := 22) hx hb hown hG hI (by omega) eY_0 rfl inX9 0 (by decide) kf_X9_7 rfl dX9_breakRings_233 ?_
                    refine lv_sipush (v := 192) hx hb dX9_breakRings_236 (by decide) ?_
                    refine lv_iload hx hb dX9_breakRings_239 (lv_at hl 0 rfl) ?_
                    refine lv_iadd hx hb dX9_breakRings_241 ?_
                    refine lv_iload hx hb dX9_breakRings_242 (lv_at hl 4 rfl) ?_
                    obtain ⟨mu22, hv, hE⟩ := bd1_some hE
                    refine xg_iast 0 hx hb hG hI (by omega) eY_1 rfl hv dX9_breakRings_244 (fun H locs hI => ?_)
                    refine lv_iconst (v := 1) hx hb dX9_breakRings_245 (by decide) ?_
                    refine lv_istore_n (lv' := [(3, .int 1), (5, .int x18), (0, .ref (A 0)), (1, .int (3 - v1)), (2, .int (x2 ||| x16)), (6, .int x14)]) hx hb dX9_breakRings_246 rfl hl (by decide) rfl (fun ls hl => ?_)
                    refine lv_goto (tgt := 15) hx hb dX9_breakRings_247 (by decide) ?_
                    exact ih15 _ _ _ _ _ _ hE hI (lv_sub hl [2, 3, 4, 0] rfl)
                  replace hE := hZ
                  clear hZ
                  refine lv_icmp_ne (tgt := 214) hx hb dX9_breakRings_207 (by decide) (fun c207 => ?_) (fun c207 => ?_)
                  · rw [if_neg c207] at hE
                    refine lv_iload hx hb dX9_breakRings_214 (lv_at hl 4 rfl) ?_
                    obtain rfl := sm1 hE
                    exact hJ216_18 _ _ _ hI (lv_sub hl [1, 2, 0, 5] rfl)
                  · rw [if_pos c207] at hE
                    refine lv_iload_n hx hb dX9_breakRings_210 rfl (lv_at hl 3 rfl) ?_
                    refine lv_goto (tgt := 216) hx hb dX9_breakRings_211 (by decide) ?_
                    obtain rfl := sm1 hE
                    exact hJ216_18 _ _ _ hI (lv_sub hl [1, 2, 0, 5] rfl)
                replace hE := hZ
                clear hZ
                refine lv_icmp_ne (tgt := 198) hx hb dX9_breakRings_191 (by decide) (fun c191 => ?_) (fun c191 => ?_)
                · rw [if_neg c191] at hE
                  refine lv_iconst (v := 1) hx hb dX9_breakRings_198 (by decide) ?_
                  refine lv_iload hx hb dX9_breakRings_199 (lv_at hl 5 rfl) ?_
                  refine lv_ishl hx hb dX9_breakRings_201 ?_
                  obtain rfl := sm1 hE
                  exact hJ202_16 _ _ _ hI (lv_sub hl [1, 2, 4, 5, 0] rfl)
                · rw [if_pos c191] at hE
                  refine lv_iconst (v := 0) hx hb dX9_breakRings_194 (by decide) ?_
                  refine lv_goto (tgt := 202) hx hb dX9_breakRings_195 (by decide) ?_
                  obtain rfl := sm1 hE
                  exact hJ202_16 _ _ _ hI (lv_sub hl [1, 2, 4, 5, 0] rfl)
              replace hE := hZ
              clear hZ
              refine lv_icmp_ne (tgt := 174) hx hb dX9_breakRings_167 (by decide) (fun c167 => ?_) (fun c167 => ?_)
              · rw [if_neg c167] at hE
                refine lv_aload_n hx hb dX9_breakRings_174 rfl (lv_at hl 0 rfl) ?_
                refine lv_aload_n hx hb dX9_breakRings_175 rfl (lv_at hl 0 rfl) ?_
                refine lv_iconst (v := 0) hx hb dX9_breakRings_176 (by decide) ?_
                refine lv_iload hx hb dX9_breakRings_177 (lv_at hl 4 rfl) ?_
                obtain ⟨r23, hc, hE⟩ := bd1_some hE
                refine xc_V1 (rest := [.ref (A 0)]) (c_X9_parentOf hc) mw_X9_parentOf km_X9_76 hx hb hml hown hG hI xA_of (wG_atE (by omega) eY_0) rfl rfl ⟨Nat.le_of_ble_eq_true rfl, Nat.le_of_ble_eq_true rfl⟩ rfl hl.1 rfl (Nat.le_of_ble_eq_true rfl) dX9_breakRings_179 (fun H locs hI => ?_)
                obtain ⟨r24, hc, hE⟩ := bd1_some hE
                refine xc_V1 (rest := []) (c_X9_nearest hc) mw_X9_nearest km_X9_167 hx hb hml hown hG hI xA_of (wG_atE (by omega) eY_0) rfl rfl ⟨Nat.le_of_ble_eq_true rfl, Nat.le_of_ble_eq_true rfl⟩ rfl hl.1 rfl (Nat.le_of_ble_eq_true rfl) dX9_breakRings_182 (fun H locs hI => ?_)
                obtain rfl := sm1 hE
                exact hJ185_14 _ _ _ hI (lv_sub hl [0, 1, 2, 3, 4] rfl)
              · rw [if_pos c167] at hE
                refine lv_iconst (v := 0) hx hb dX9_breakRings_170 (by decide) ?_
                refine lv_goto (tgt := 185) hx hb dX9_breakRings_171 (by decide) ?_
                obtain rfl := sm1 hE
                exact hJ185_14 _ _ _ hI (lv_sub hl [0, 1, 2, 3, 4] rfl)
            replace hE := hZ
            clear hZ
            have hL58 : ∀ (n58 : Nat) (x10 : Int32) (x11 : Int32) (H : Heap) (locs : List Loc) (ls : Array Slot), X9_breakRings_L58 v1 x2 mu4 r9 n58 x10 x11 = some x12 → xI D (va_A (wY A cI u) s.heap.size) s.heap (wY A cI mu4) H locs → lv_has ls 8 [(0, .ref (A 0)), (1, .int (3 - v1)), (2, .int x2), (3, .int x3), (4, .int r9), (5, .int x10), (6, .int x11)] → W p l e (rmOf 2 45) s m ([.ref (A 0)] : List Value).toArray below meth c H locs 0 0 (xQ D (tyL cI cZ cD) below ([.ref (A 0)] : List Value).toArray s (wY A cI u) none (wY A cI u1)) (F0 m 58 ls []) := by
              intro n58
              induction n58 with
              | zero =>
                intro x10 x11 H locs ls hE
                exact absurd hE (by simp [X9_breakRings_L58])
              | succ n58 ih58 =>
                intro x10 x11 H locs ls hE hI hl
                rw [X9_breakRings_L58] at hE
                refine lv_iload hx hb dX9_breakRings_58 (lv_at hl 6 rfl) ?_
                refine lv_if_le (tgt := 164) hx hb dX9_breakRings_60 (by decide) (fun c60 => ?_) (fun c60 => ?_)
                · rw [if_pos c60] at hE
                  obtain rfl := sm1 hE
                  exact hX58_12 _ _ _ hI (lv_sub hl [0, 1, 2, 3, 5] rfl)
                · rw [if_neg c60] at hE
                  refine lv_iload hx hb dX9_breakRings_63 (lv_at hl 4 rfl) ?_
                  refine lv_iload hx hb dX9_breakRings_65 (lv_at hl 6 rfl) ?_
                  refine lv_ishr hx hb dX9_breakRings_67 ?_
                  refine lv_iconst (v := 1) hx hb dX9_breakRings_68 (by decide) ?_
                  refine lv_iand hx hb dX9_breakRings_69 ?_
                  refine lv_iconst (v := 1) hx hb dX9_breakRings_70 (by decide) ?_
                  obtain ⟨x25, hZ, hE⟩ := bd1_some hE
                  have hJ108_25 : ∀ (H : Heap) (locs : List Loc) (ls : Array Slot), xI D (va_A (wY A cI u) s.heap.size) s.heap (wY A cI mu4) H locs → lv_has ls 8 [(0, .ref (A 0)), (1, .int (3 - v1)), (2, .int x2), (3, .int x3), (4, .int r9), (5, .int x10), (6, .int x11)] → W p l e (rmOf 2 45) s m ([.ref (A 0)] : List Value).toArray below meth c H locs 0 0 (xQ D (tyL cI cZ cD) below ([.ref (A 0)] : List Value).toArray s (wY A cI u) none (wY A cI u1)) (F0 m 108 ls [.int x25]) := by
                    intro H locs ls hI hl
                    clear hZ
                    refine lv_istore (lv' := [(7, .int x25), (0, .ref (A 0)), (1, .int (3 - v1)), (2, .int x2), (3, .int x3), (4, .int r9), (5, .int x10), (6, .int x11)]) hx hb dX9_breakRings_108 hl (by decide) rfl (fun ls hl => ?_)
                    refine lv_iload hx hb dX9_breakRings_110 (lv_at hl 0 rfl) ?_
                    refine lv_if_eq (tgt := 154) hx hb dX9_breakRings_112 (by decide) (fun c112 => ?_) (fun c112 => ?_)
                    · rw [if_pos c112] at hE
                      refine lv_iload hx hb dX9_breakRings_154 (lv_at hl 6 rfl) ?_
                      refine lv_istore (lv' := [(5, .int x10), (7, .int x25), (0, .ref (A 0)), (1, .int (3 - v1)), (2, .int x2), (3, .int x3), (4, .int r9), (6, .int x11)]) hx hb dX9_breakRings_156 hl (by decide) rfl (fun ls hl => ?_)
                      refine lv_iinc (v := x11 + (-1)) (lv' := [(6, .int (x11 + (-1))), (5, .int x10), (7, .int x25), (0, .ref (A 0)), (1, .int (3 - v1)), (2, .int x2), (3, .int x3), (4, .int r9)]) hx hb dX9_breakRings_158 hl (k := 7) rfl (congrArg (x11 + ·) (by decide)) (by decide) rfl (fun ls hl => ?_)
                      refine lv_goto (tgt := 58) hx hb dX9_breakRings_161 (by decide) ?_
                      exact ih58 _ _ _ _ _ hE hI (lv_sub hl [3, 4, 5, 6, 7, 1, 0] rfl)
                    · rw [if_neg c112] at hE
                      refine lv_aload_n hx hb dX9_breakRings_115 rfl (lv_at hl 1 rfl) ?_
                      refine lv_iconst (v := 3) hx hb dX9_breakRings_116 (by decide) ?_
                      refine lv_iload hx hb dX9_breakRings_117 (lv_at hl 7 rfl) ?_
                      obtain ⟨r27, hc, hE⟩ := bd1_some hE
                      refine xc_V1 (rest := []) (c_X9_parentOf hc) mw_X9_parentOf km_X9_76 hx hb hml hown hG hI xA_of (wG_atE (by omega) eY_0) rfl rfl ⟨Nat.le_of_ble_eq_true rfl, Nat.le_of_ble_eq_true rfl⟩ rfl hl.1 rfl (Nat.le_of_ble_eq_true rfl) dX9_breakRings_119 (fun H locs hI => ?_)
                      refine lv_aload_n hx hb dX9_breakRings_122 rfl (lv_at hl 1 rfl) ?_
                      refine lv_iload_n hx hb dX9_breakRings_123 rfl (lv_at hl 2 rfl) ?_
                      refine lv_iload hx hb dX9_breakRings_124 (lv_at hl 7 rfl) ?_
                      obtain ⟨r28, hc, hE⟩ := bd1_some hE
                      refine xc_V1 (rest := [.int r27]) (c_X9_parentOf hc) mw_X9_parentOf km_X9_76 hx hb hml hown hG hI xA_of (wG_atE (by omega) eY_0) rfl rfl ⟨Nat.le_of_ble_eq_true rfl, Nat.le_of_ble_eq_true rfl⟩ rfl hl.1 rfl (Nat.le_of_ble_eq_true rfl) dX9_breakRings_126 (fun H locs hI => ?_)
                      refine lv_icmp_ne (tgt := 154) hx hb dX9_breakRings_129 (by decide) (fun c129 => ?_) (fun c129 => ?_)
                      · rw [if_neg c129] at hE
                        refine lv_iload hx hb dX9_breakRings_154 (lv_at hl 6 rfl) ?_
                        refine lv_istore (lv' := [(5, .int x10), (7, .int x25), (0, .ref (A 0)), (1, .int (3 - v1)), (2, .int x2), (3, .int x3), (4, .int r9), (6, .int x11)]) hx hb dX9_breakRings_156 hl (by decide) rfl (fun ls hl => ?_)
                        refine lv_iinc (v := x11 + (-1)) (lv' := [(6, .int (x11 + (-1))), (5, .int x10), (7, .int x25), (0, .ref (A 0)), (1, .int (3 - v1)), (2, .int x2), (3, .int x3), (4, .int r9)]) hx hb dX9_breakRings_158 hl (k := 7) rfl (congrArg (x11 + ·) (by decide)) (by decide) rfl (fun ls hl => ?_)
                        refine lv_goto (tgt := 58) hx hb dX9_breakRings_161 (by decide) ?_
                        exact ih58 _ _ _ _ _ hE hI (lv_sub hl [3, 4, 5, 6, 7, 1, 0] rfl)
                      · rw [if_pos c129] at hE
                        refine lv_aload_n hx hb dX9_breakRings_132 rfl (lv_at hl 1 rfl) ?_
                        refine lv_iload_n hx hb dX9_breakRings_133 rfl (lv_at hl 2 rfl) ?_
                        refine lv_iload hx hb dX9_breakRings_134 (lv_at hl 7 rfl) ?_
                        obtain ⟨r29, hc, hE⟩ := bd1_some hE
                        refine xc_V1 (rest := []) (c_X9_parentOf hc) mw_X9_parentOf km_X9_76 hx hb hml hown hG hI xA_of (wG_atE (by omega) eY_0) rfl rfl ⟨Nat.le_of_ble_eq_true rfl, Nat.le_of_ble_eq_true rfl⟩ rfl hl.1 rfl (Nat.le_of_ble_eq_true rfl) dX9_breakRings_136 (fun H locs hI => ?_)
                        refine lv_aload_n hx hb dX9_breakRings_139 rfl (lv_at hl 1 rfl) ?_
                        refine lv_iconst (v := 0) hx hb dX9_breakRings_140 (by decide) ?_
                        refine lv_iload hx hb dX9_breakRings_141 (lv_at hl 7 rfl) ?_
                        obtain ⟨r30, hc, hE⟩ := bd1_some hE
                        refine xc_V1 (rest := [.int r29]) (c_X9_parentOf hc) mw_X9_parentOf km_X9_76 hx hb hml hown hG hI xA_of (wG_atE (by omega) eY_0) rfl rfl ⟨Nat.le_of_ble_eq_true rfl, Nat.le_of_ble_eq_true rfl⟩ rfl hl.1 rfl (Nat.le_of_ble_eq_true rfl) dX9_breakRings_143 (fun H locs hI => ?_)
                        refine lv_icmp_eq (tgt := 154) hx hb dX9_breakRings_146 (by decide) (fun c146 => ?_) (fun c146 => ?_)
                        · rw [if_pos c146] at hE
                          refine lv_iload hx hb dX9_breakRings_154 (lv_at hl 6 rfl) ?_
                          refine lv_istore (lv' := [(5, .int x10), (7, .int x25), (0, .ref (A 0)), (1, .int (3 - v1)), (2, .int x2), (3, .int x3), (4, .int r9), (6, .int x11)]) hx hb dX9_breakRings_156 hl (by decide) rfl (fun ls hl => ?_)
                          refine lv_iinc (v := x11 + (-1)) (lv' := [(6, .int (x11 + (-1))), (5, .int x10), (7, .int x25), (0, .ref (A 0)), (1, .int (3 - v1)), (2, .int x2), (3, .int x3), (4, .int r9)]) hx hb dX9_breakRings_158 hl (k := 7) rfl (congrArg (x11 + ·) (by decide)) (by decide) rfl (fun ls hl => ?_)
                          refine lv_goto (tgt := 58) hx hb dX9_breakRings_161 (by decide) ?_
                          exact ih58 _ _ _ _ _ hE hI (lv_sub hl [3, 4, 5, 6, 7, 1, 0] rfl)
                        · rw [if_neg c146] at hE
                          refine lv_iload hx hb dX9_breakRings_149 (lv_at hl 7 rfl) ?_
                          refine lv_goto (tgt := 156) hx hb dX9_breakRings_151 (by decide) ?_
                          refine lv_istore (lv' := [(5, .int x11), (7, .int x25), (0, .ref (A 0)), (1, .int (3 - v1)), (2, .int x2), (3, .int x3), (4, .int r9), (6, .int x11)]) hx hb dX9_breakRings_156 hl (by decide) rfl (fun ls hl => ?_)
                          refine lv_iinc (v := x11 + (-1)) (lv' := [(6, .int (x11 + (-1))), (5, .int x11), (7, .int x25), (0, .ref (A 0)), (1, .int (3 - v1)), (2, .int x2), (3, .int x3), (4, .int r9)]) hx hb dX9_breakRings_158 hl (k := 7) rfl (congrArg (x11 + ·) (by decide)) (by decide) rfl (fun ls hl => ?_)
                          refine lv_goto (tgt := 58) hx hb dX9_breakRings_161 (by decide) ?_
                          exact ih58 _ _ _ _ _ hE hI (lv_sub hl [3, 4, 5, 6, 7, 1, 0] rfl)
                  replace hE := hZ
                  clear hZ
                  refine lv_icmp_ne (tgt := 107) hx hb dX9_breakRings_71 (by decide) (fun c71 => ?_) (fun c71 => ?_)
                  · rw [if_neg c71] at hE
                    refine lv_iconst (v := 0) hx hb dX9_breakRings_107 (by decide) ?_
                    obtain rfl := sm1 hE
                    exact hJ108_25 _ _ _ hI (lv_sub hl [0, 1, 2, 3, 4, 5, 6] rfl)
                  · rw [if_pos c71] at hE
                    refine lv_iload_n hx hb dX9_breakRings_74 rfl (lv_at hl 2 rfl) ?_
                    refine lv_iload hx hb dX9_breakRings_75 (lv_at hl 6 rfl) ?_
                    refine lv_ishr hx hb dX9_breakRings_77 ?_
                    refine lv_iconst (v := 1) hx hb dX9_breakRings_78 (by decide) ?_
                    refine lv_iand hx hb dX9_breakRings_79 ?_
                    refine lv_if_ne (tgt := 107) hx hb dX9_breakRings_80 (by decide) (fun c80 => ?_) (fun c80 => ?_)
                    · rw [if_neg c80] at hE
                      refine lv_iconst (v := 0) hx hb dX9_breakRings_107 (by decide) ?_
                      obtain rfl := sm1 hE
                      exact hJ108_25 _ _ _ hI (lv_sub hl [0, 1, 2, 3, 4, 5, 6] rfl)
                    · rw [if_pos c80] at hE
                      refine lv_aload_n hx hb dX9_breakRings_83 rfl (lv_at hl 0 rfl) ?_
                      refine lv_iconst (v := 0) hx hb dX9_breakRings_84 (by decide) ?_
                      refine lv_iload hx hb dX9_breakRings_85 (lv_at hl 6 rfl) ?_
                      obtain ⟨r31, hc, hE⟩ := bd1_some hE
                      refine xc_V1 (rest := []) (c_X9_isIn hc) mw_X9_isIn km_X9_72 hx hb hml hown hG hI xA_of (wG_atE (by omega) eY_0) rfl rfl ⟨Nat.le_of_ble_eq_true rfl, Nat.le_of_ble_eq_true rfl⟩ rfl hl.1 rfl (Nat.le_of_ble_eq_true rfl) dX9_breakRings_87 (fun H locs hI => ?_)
                      refine lv_if_eq (tgt := 107) hx hb dX9_breakRings_90 (by decide) (fun c90 => ?_) (fun c90 => ?_)
                      · rw [if_pos c90] at hE
                        refine lv_iconst (v := 0) hx hb dX9_breakRings_107 (by decide) ?_
                        obtain rfl := sm1 hE
                        exact hJ108_25 _ _ _ hI (lv_sub hl [0, 1, 2, 3, 4, 5, 6] rfl)
                      · rw [if_neg c90] at hE
                        refine lv_aload_n hx hb dX9_breakRings_93 rfl (lv_at hl 0 rfl) ?_
                        refine lv_iload_n hx hb dX9_breakRings_94 rfl (lv_at hl 1 rfl) ?_
                        refine lv_iload hx hb dX9_breakRings_95 (lv_at hl 6 rfl) ?_
                        obtain ⟨r32, hc, hE⟩ := bd1_some hE
                        refine xc_V1 (rest := []) (c_X9_isIn hc) mw_X9_isIn km_X9_72 hx hb hml hown hG hI xA_of (wG_atE (by omega) eY_0) rfl rfl ⟨Nat.le_of_ble_eq_true rfl, Nat.le_of_ble_eq_true rfl⟩ rfl hl.1 rfl (Nat.le_of_ble_eq_true rfl) dX9_breakRings_97 (fun H locs hI => ?_)
                        refine lv_if_eq (tgt := 107) hx hb dX9_breakRings_100 (by decide) (fun c100 => ?_) (fun c100 => ?_)
                        · rw [if_pos c100] at hE
                          refine lv_iconst (v := 0) hx hb dX9_breakRings_107 (by decide) ?_
                          obtain rfl := sm1 hE
                          exact hJ108_25 _ _ _ hI (lv_sub hl [0, 1, 2, 3, 4, 5, 6] rfl)
                        · rw [if_neg c100] at hE
                          refine lv_iconst (v := 1) hx hb dX9_breakRings_103 (by decide) ?_
                          refine lv_goto (tgt := 108) hx hb dX9_breakRings_104 (by decide) ?_
                          obtain rfl := sm1 hE
                          exact hJ108_25 _ _ _ hI (lv_sub hl [0, 1, 2, 3, 4, 5, 6] rfl)
            exact hL58 _ _ _ _ _ _ hE hI (lv_sub hl [3, 4, 5, 6, 2, 1, 0] rfl)
          · rw [if_pos c35] at hE
            refine lv_iinc (v := x3 + 1) (lv' := [(3, .int (x3 + 1)), (0, .ref (A 0)), (1, .int (3 - v1)), (2, .int x2)]) hx hb dX9_breakRings_38 hl (k := 3) rfl rfl (by decide) rfl (fun ls hl => ?_)
            refine lv_goto (tgt := 15) hx hb dX9_breakRings_41 (by decide) ?_
            exact ih15 _ _ _ _ _ _ hE hI (lv_sub hl [1, 2, 3, 0] rfl)
  exact hL15 _ _ _ _ _ _ _ hE hI (lv_sub hl [3, 2, 1, 0] rfl)
def X9_keyOf (u : Mem) (p1 : Int32) : Option (Int32) :=
  (X9_parentOf u 3 p1 : Option Int32).bind fun (r1 : Int32) => (rd 258 (u 1) 256).bind fun v2 => (X9_isIn u v2 p1 : Option Bool).bind fun (r3 : Bool) => (if (b2i r3) = 0 then (X9_isIn u (3 - v2) p1 : Option Bool).bind fun (r4 : Bool) => (if (b2i r4) = 0 then some 100 else (X9_parentOf u (3 - v2) p1 : Option Int32).bind fun (r5 : Int32) => (if r5 = r1 then (X9_placeOf u (3 - v2) p1 : Option Int32).bind fun (r6 : Int32) => some ((2 * r6) + 1) else some 100)) else (X9_parentOf u v2 p1 : Option Int32).bind fun (r7 : Int32) => (if r7 = r1 then (X9_placeOf u v2 p1 : Option Int32).bind fun (r11 : Int32) => some (2 * r11) else (X9_isIn u (3 - v2) p1 : Option Bool).bind fun (r8 : Bool) => (if (b2i r8) = 0 then some 100 else (X9_parentOf u (3 - v2) p1 : Option Int32).bind fun (r9 : Int32) => (if r9 = r1 then (X9_placeOf u (3 - v2) p1 : Option Int32).bind fun (r10 : Int32) => some ((2 * r10) + 1) else some 100))))
set_option maxHeartbeats 4000000 in
set_option maxRecDepth 100000 in
theorem c_X9_keyOf {l : Launch} {D : va_G} {A : Nat → Nat} {cI cZ cD : ClassId} {u : Mem} {p1 : Int32} {r : Int32}  (hE : X9_keyOf u p1 = some (r)) : Ct l yX9_keyOf cX9_keyOf 5 (some .int) (rmOf 1 22) D (tyL cI cZ cD) [.ref (A 0), .int p1] (wY A cI u) (some (.int r)) (wY A cI u) := by
  refine Ct.ofW (by decide +kernel) (fun p e s m below meth c hC hI => ?_)
  obtain ⟨hx, hb, hml, hown, hr, hlk, hG⟩ := hC
  have hown : s.vm.findClass RX9 = some m.cls := hown
  have hl := lv_entry ([.ref (A 0), .int p1] : List Value) (n := 5) (Nat.le_of_ble_eq_true rfl)
  rw [lg_entry_eq]
  generalize (lg_sl ([.ref (A 0), .int p1] : List Value) ++ List.replicate (5 - (lg_sl ([.ref (A 0), .int p1] : List Value)).length) Slot.unset).toArray = ls at hl ⊢
  have hl : lv_has ls 5 [(0, .ref (A 0)), (1, .int p1)] := hl
  unfold X9_keyOf at hE
  refine lv_aload_n hx hb dX9_keyOf_0 rfl (lv_at hl 0 rfl) ?_
  refine lv_iconst (v := 3) hx hb dX9_keyOf_1 (by decide) ?_
  refine lv_iload_n hx hb dX9_keyOf_2 rfl (lv_at hl 1 rfl) ?_
  obtain ⟨r1, hc, hE⟩ := bd1_some hE
  refine xc_V1 (rest := []) (c_X9_parentOf hc) mw_X9_parentOf km_X9_76 hx hb hml hown hG hI xA_of (wG_atE (by omega) eY_0) rfl rfl ⟨Nat.le_of_ble_eq_true rfl, Nat.le_of_ble_eq_true rfl⟩ rfl hl.1 rfl (Nat.le_of_ble_eq_true rfl) dX9_keyOf_3 (fun H locs hI => ?_)
  refine lv_istore_n (lv' := [(2, .int r1), (0, .ref (A 0)), (1, .int p1)]) hx hb dX9_keyOf_6 rfl hl (by decide) rfl (fun ls hl => ?_)
  refine lv_aload_n hx hb dX9_keyOf_7 rfl (lv_at hl 1 rfl) ?_
  refine xg_get (C := RX9) (T := TX9) (M := 22) hx hb hown hG hI (by omega) eY_0 rfl inX9 0 (by decide) kf_X9_7 rfl dX9_keyOf_8 ?_
  refine lv_sipush (v := 256) hx hb dX9_keyOf_11 (by decide) ?_
  obtain ⟨v2, hv, hE⟩ := bd1_some hE
  refine xg_iald 0 hx hb hG hI (by omega) eY_1 rfl hv dX9_keyOf_14 ?_
  refine lv_istore_n (lv' := [(3, .int v2), (2, .int r1), (0, .ref (A 0)), (1, .int p1)]) hx hb dX9_keyOf_15 rfl hl (by decide) rfl (fun ls hl => ?_)
  refine lv_iconst (v := 3) hx hb dX9_keyOf_16 (by decide) ?_
  refine lv_iload_n hx hb dX9_keyOf_17 rfl (lv_at hl 0 rfl) ?_
  refine lv_isub hx hb dX9_keyOf_18 ?_
  refine lv_istore (lv' := [(4, .int (3 - v2)), (3, .int v2), (2, .int r1), (0, .ref (A 0)), (1, .int p1)]) hx hb dX9_keyOf_19 hl (by decide) rfl (fun ls hl => ?_)
  refine lv_aload_n hx hb dX9_keyOf_21 rfl (lv_at hl 3 rfl) ?_
  refine lv_iload_n hx hb dX9_keyOf_22 rfl (lv_at hl 1 rfl) ?_
  refine lv_iload_n hx hb dX9_keyOf_23 rfl (lv_at hl 4 rfl) ?_
  obtain ⟨r3, hc, hE⟩ := bd1_some hE
  refine xc_V1 (rest := []) (c_X9_isIn hc) mw_X9_isIn km_X9_72 hx hb hml hown hG hI xA_of (wG_atE (by omega) eY_0) rfl rfl ⟨Nat.le_of_ble_eq_true rfl, Nat.le_of_ble_eq_true rfl⟩ rfl hl.1 rfl (Nat.le_of_ble_eq_true rfl) dX9_keyOf_24 (fun H locs hI => ?_)
  refine lv_if_eq (tgt := 51) hx hb dX9_keyOf_27 (by decide) (fun c27 => ?_) (fun c27 => ?_)
  · rw [if_pos c27] at hE
    refine lv_aload_n hx hb dX9_keyOf_51 rfl (lv_at hl 3 rfl) ?_
    refine lv_iload hx hb dX9_keyOf_52 (lv_at hl 0 rfl) ?_
    refine lv_iload_n hx hb dX9_keyOf_54 rfl (lv_at hl 4 rfl) ?_
    obtain ⟨r4, hc, hE⟩ := bd1_some hE
    refine xc_V1 (rest := []) (c_X9_isIn hc) mw_X9_isIn km_X9_72 hx hb hml hown hG hI xA_of (wG_atE (by omega) eY_0) rfl rfl ⟨Nat.le_of_ble_eq_true rfl, Nat.le_of_ble_eq_true rfl⟩ rfl hl.1 rfl (Nat.le_of_ble_eq_true rfl) dX9_keyOf_55 (fun H locs hI => ?_)
    refine lv_if_eq (tgt := 86) hx hb dX9_keyOf_58 (by decide) (fun c58 => ?_) (fun c58 => ?_)
    · rw [if_pos c58] at hE
      refine lv_bipush (v := 100) hx hb dX9_keyOf_86 (by decide) ?_
      obtain rfl := sm1 hE
      exact xr_i hx hb hr hlk hG hI dX9_keyOf_88
    · rw [if_neg c58] at hE
      refine lv_aload_n hx hb dX9_keyOf_61 rfl (lv_at hl 3 rfl) ?_
      refine lv_iload hx hb dX9_keyOf_62 (lv_at hl 0 rfl) ?_
      refine lv_iload_n hx hb dX9_keyOf_64 rfl (lv_at hl 4 rfl) ?_
      obtain ⟨r5, hc, hE⟩ := bd1_some hE
      refine xc_V1 (rest := []) (c_X9_parentOf hc) mw_X9_parentOf km_X9_76 hx hb hml hown hG hI xA_of (wG_atE (by omega) eY_0) rfl rfl ⟨Nat.le_of_ble_eq_true rfl, Nat.le_of_ble_eq_true rfl⟩ rfl hl.1 rfl (Nat.le_of_ble_eq_true rfl) dX9_keyOf_65 (fun H locs hI => ?_)
      refine lv_iload_n hx hb dX9_keyOf_68 rfl (lv_at hl 2 rfl) ?_
      refine lv_icmp_ne (tgt := 86) hx hb dX9_keyOf_69 (by decide) (fun c69 => ?_) (fun c69 => ?_)
      · rw [if_neg c69] at hE
        refine lv_bipush (v := 100) hx hb dX9_keyOf_86 (by decide) ?_
        obtain rfl := sm1 hE
        exact xr_i hx hb hr hlk hG hI dX9_keyOf_88
      · rw [if_pos c69] at hE
        refine lv_iconst (v := 2) hx hb dX9_keyOf_72 (by decide) ?_
        refine lv_aload_n hx hb dX9_keyOf_73 rfl (lv_at hl 3 rfl) ?_
        refine lv_iload hx hb dX9_keyOf_74 (lv_at hl 0 rfl) ?_
        refine lv_iload_n hx hb dX9_keyOf_76 rfl (lv_at hl 4 rfl) ?_
        obtain ⟨r6, hc, hE⟩ := bd1_some hE
        refine xc_V1 (rest := [.int 2]) (c_X9_placeOf hc) mw_X9_placeOf km_X9_80 hx hb hml hown hG hI xA_of (wG_atE (by omega) eY_0) rfl rfl ⟨Nat.le_of_ble_eq_true rfl, Nat.le_of_ble_eq_true rfl⟩ rfl hl.1 rfl (Nat.le_of_ble_eq_true rfl) dX9_keyOf_77 (fun H locs hI => ?_)
        refine lv_imul hx hb dX9_keyOf_80 ?_
        refine lv_iconst (v := 1) hx hb dX9_keyOf_81 (by decide) ?_
        refine lv_iadd hx hb dX9_keyOf_82 ?_
        refine lv_goto (tgt := 88) hx hb dX9_keyOf_83 (by decide) ?_
        obtain rfl := sm1 hE
        exact xr_i hx hb hr hlk hG hI dX9_keyOf_88
  · rw [if_neg c27] at hE
    refine lv_aload_n hx hb dX9_keyOf_30 rfl (lv_at hl 3 rfl) ?_
    refine lv_iload_n hx hb dX9_keyOf_31 rfl (lv_at hl 1 rfl) ?_
    refine lv_iload_n hx hb dX9_keyOf_32 rfl (lv_at hl 4 rfl) ?_
    obtain ⟨r7, hc, hE⟩ := bd1_some hE
    refine xc_V1 (rest := []) (c_X9_parentOf hc) mw_X9_parentOf km_X9_76 hx hb hml hown hG hI xA_of (wG_atE (by omega) eY_0) rfl rfl ⟨Nat.le_of_ble_eq_true rfl, Nat.le_of_ble_eq_true rfl⟩ rfl hl.1 rfl (Nat.le_of_ble_eq_true rfl) dX9_keyOf_33 (fun H locs hI => ?_)
    refine lv_iload_n hx hb dX9_keyOf_36 rfl (lv_at hl 2 rfl) ?_
    refine lv_icmp_ne (tgt := 51) hx hb dX9_keyOf_37 (by decide) (fun c37 => ?_) (fun c37 => ?_)
    · rw [if_neg c37] at hE
      refine lv_aload_n hx hb dX9_keyOf_51 rfl (lv_at hl 3 rfl) ?_
      refine lv_iload hx hb dX9_keyOf_52 (lv_at hl 0 rfl) ?_
      refine lv_iload_n hx hb dX9_keyOf_54 rfl (lv_at hl 4 rfl) ?_
      obtain ⟨r8, hc, hE⟩ := bd1_some hE
      refine xc_V1 (rest := []) (c_X9_isIn hc) mw_X9_isIn km_X9_72 hx hb hml hown hG hI xA_of (wG_atE (by omega) eY_0) rfl rfl ⟨Nat.le_of_ble_eq_true rfl, Nat.le_of_ble_eq_true rfl⟩ rfl hl.1 rfl (Nat.le_of_ble_eq_true rfl) dX9_keyOf_55 (fun H locs hI => ?_)
      refine lv_if_eq (tgt := 86) hx hb dX9_keyOf_58 (by decide) (fun c58 => ?_) (fun c58 => ?_)
      · rw [if_pos c58] at hE
        refine lv_bipush (v := 100) hx hb dX9_keyOf_86 (by decide) ?_
        obtain rfl := sm1 hE
        exact xr_i hx hb hr hlk hG hI dX9_keyOf_88
      · rw [if_neg c58] at hE
        refine lv_aload_n hx hb dX9_keyOf_61 rfl (lv_at hl 3 rfl) ?_
        refine lv_iload hx hb dX9_keyOf_62 (lv_at hl 0 rfl) ?_
        refine lv_iload_n hx hb dX9_keyOf_64 rfl (lv_at hl 4 rfl) ?_
        obtain ⟨r9, hc, hE⟩ := bd1_some hE
        refine xc_V1 (rest := []) (c_X9_parentOf hc) mw_X9_parentOf km_X9_76 hx hb hml hown hG hI xA_of (wG_atE (by omega) eY_0) rfl rfl ⟨Nat.le_of_ble_eq_true rfl, Nat.le_of_ble_eq_true rfl⟩ rfl hl.1 rfl (Nat.le_of_ble_eq_true rfl) dX9_keyOf_65 (fun H locs hI => ?_)
        refine lv_iload_n hx hb dX9_keyOf_68 rfl (lv_at hl 2 rfl) ?_
        refine lv_icmp_ne (tgt := 86) hx hb dX9_keyOf_69 (by decide) (fun c69 => ?_) (fun c69 => ?_)
        · rw [if_neg c69] at hE
          refine lv_bipush (v := 100) hx hb dX9_keyOf_86 (by decide) ?_
          obtain rfl := sm1 hE
          exact xr_i hx hb hr hlk hG hI dX9_keyOf_88
        · rw [if_pos c69] at hE
          refine lv_iconst (v := 2) hx hb dX9_keyOf_72 (by decide) ?_
          refine lv_aload_n hx hb dX9_keyOf_73 rfl (lv_at hl 3 rfl) ?_
          refine lv_iload hx hb dX9_keyOf_74 (lv_at hl 0 rfl) ?_
          refine lv_iload_n hx hb dX9_keyOf_76 rfl (lv_at hl 4 rfl) ?_
          obtain ⟨r10, hc, hE⟩ := bd1_some hE
          refine xc_V1 (rest := [.int 2]) (c_X9_placeOf hc) mw_X9_placeOf km_X9_80 hx hb hml hown hG hI xA_of (wG_atE (by omega) eY_0) rfl rfl ⟨Nat.le_of_ble_eq_true rfl, Nat.le_of_ble_eq_true rfl⟩ rfl hl.1 rfl (Nat.le_of_ble_eq_true rfl) dX9_keyOf_77 (fun H locs hI => ?_)
          refine lv_imul hx hb dX9_keyOf_80 ?_
          refine lv_iconst (v := 1) hx hb dX9_keyOf_81 (by decide) ?_
          refine lv_iadd hx hb dX9_keyOf_82 ?_
          refine lv_goto (tgt := 88) hx hb dX9_keyOf_83 (by decide) ?_
          obtain rfl := sm1 hE
          exact xr_i hx hb hr hlk hG hI dX9_keyOf_88
    · rw [if_pos c37] at hE
      refine lv_iconst (v := 2) hx hb dX9_keyOf_40 (by decide) ?_
      refine lv_aload_n hx hb dX9_keyOf_41 rfl (lv_at hl 3 rfl) ?_
      refine lv_iload_n hx hb dX9_keyOf_42 rfl (lv_at hl 1 rfl) ?_
      refine lv_iload_n hx hb dX9_keyOf_43 rfl (lv_at hl 4 rfl) ?_
      obtain ⟨r11, hc, hE⟩ := bd1_some hE
      refine xc_V1 (rest := [.int 2]) (c_X9_placeOf hc) mw_X9_placeOf km_X9_80 hx hb hml hown hG hI xA_of (wG_atE (by omega) eY_0) rfl rfl ⟨Nat.le_of_ble_eq_true rfl, Nat.le_of_ble_eq_true rfl⟩ rfl hl.1 rfl (Nat.le_of_ble_eq_true rfl) dX9_keyOf_44 (fun H locs hI => ?_)
      refine lv_imul hx hb dX9_keyOf_47 ?_
      refine lv_goto (tgt := 88) hx hb dX9_keyOf_48 (by decide) ?_
      obtain rfl := sm1 hE
      exact xr_i hx hb hr hlk hG hI dX9_keyOf_88
def X9_merge_L183 (x16 : Int32) (mu17 : Mem) : Nat → Int32 → Int32 → Option (Int32)
  | 0, _, _ => none
  | n183 + 1, x20, x21 =>
    (if 16 ≤ x21 then some x20 else (X9_isIn mu17 3 x16 : Option Bool).bind fun (r25 : Bool) => (if (b2i r25) = 0 then some x20 else ((if x21 = x16 then some 0 else (X9_isIn mu17 3 x21 : Option Bool).bind fun (r34 : Bool) => (if (b2i r34) = 0 then some 0 else (X9_parentOf mu17 3 x21 : Option Int32).bind fun (r35 : Int32) => (X9_parentOf mu17 3 x16 : Option Int32).bind fun (r36 : Int32) => (if r35 = r36 then some 1 else some 0))) : Option Int32).bind fun (x26 : Int32) => ((if x26 = 0 then some 0 else (X9_keyOf mu17 x21 : Option Int32).bind fun (r30 : Int32) => (X9_keyOf mu17 x16 : Option Int32).bind fun (r31 : Int32) => (if r30 < r31 then some 1 else (X9_keyOf mu17 x21 : Option Int32).bind fun (r32 : Int32) => (X9_keyOf mu17 x16 : Option Int32).bind fun (r33 : Int32) => (if r32 = r33 then (if x16 ≤ x21 then some 0 else some 1) else some 0))) : Option Int32).bind fun (x28 : Int32) => X9_merge_L183 x16 mu17 n183 (x20 + x28) (x21 + 1)))
def X9_merge_L173 : Nat → Int32 → Mem → Option (Mem)
  | 0, _, _ => none
  | n173 + 1, x16, mu17 =>
    (if 16 ≤ x16 then some mu17 else (X9_merge_L183 x16 mu17 fu 0 1 : Option Int32).bind fun (x22 : Int32) => (stI 258 mu17 1 (208 + x16) x22).bind fun mu24 => X9_merge_L173 n173 (x16 + 1) mu24)
def X9_merge_L99 : Nat → Int32 → Mem → Option (Mem)
  | 0, _, _ => none
  | n99 + 1, x10, mu11 =>
    (if 16 ≤ x10 then some mu11 else (X9_parentOf mu11 3 x10 : Option Int32).bind fun (r37 : Int32) => (X9_isIn mu11 3 x10 : Option Bool).bind fun (r38 : Bool) => (if (b2i r38) = 0 then X9_merge_L99 n99 (x10 + 1) mu11 else (X9_isIn mu11 3 r37 : Option Bool).bind fun (r39 : Bool) => (if (b2i r39) = 0 then (X9_conflict mu11 4 x10 r37 : Option Mem).bind fun (mu40 : Mem) => (X9_nearest mu40 r37 : Option Int32).bind fun (r41 : Int32) => (stI 258 mu40 1 (192 + x10) r41).bind fun mu42 => X9_merge_L99 n99 (x10 + 1) mu42 else X9_merge_L99 n99 (x10 + 1) mu11)))
def X9_merge_L63 (x6 : Int32) (x43 : Int32) : Nat → Int32 → Mem → Option (Mem)
  | 0, _, _ => none
  | n63 + 1, x47, mu48 =>
    (if 16 ≤ x47 then some mu48 else (X9_isIn mu48 3 x47 : Option Bool).bind fun (r51 : Bool) => (if (b2i r51) = 0 then X9_merge_L63 x6 x43 n63 (x47 + 1) mu48 else (X9_settle mu48 x43 x47 x6 : Option Mem).bind fun (mu52 : Mem) => X9_merge_L63 x6 x43 n63 (x47 + 1) mu52))
def X9_merge_L26 : Nat → Int32 → Mem → Option (Mem)
  | 0, _, _ => none
  | n26 + 1, x6, mu7 =>
    (if 3 ≤ x6 then some mu7 else ((if x6 = 0 then some 32 else (if x6 = 1 then some 48 else some 0)) : Option Int32).bind fun (x43 : Int32) => ((if x6 = 2 then some 1 else some 0) : Option Int32).bind fun (x45 : Int32) => (X9_merge_L63 x6 x43 fu x45 mu7 : Option Mem).bind fun (mu49 : Mem) => X9_merge_L26 n26 (x6 + 1) mu49)
def X9_merge_L7 : Nat → Int32 → Mem → Option (Mem)
  | 0, _, _ => none
  | n7 + 1, x2, mu3 =>
    (if 16 ≤ x2 then some mu3 else (X9_mergeIn mu3 x2 : Option Mem).bind fun (mu53 : Mem) => X9_merge_L7 n7 (x2 + 1) mu53)
def X9_merge (u : Mem) : Option (Mem) :=
  (stF u 0 13 0).bind fun mu1 => (X9_merge_L7 fu 0 mu1 : Option Mem).bind fun (mu4 : Mem) => (X9_merge_L26 fu 0 mu4 : Option Mem).bind fun (mu8 : Mem) => (X9_merge_L99 fu 1 mu8 : Option Mem).bind fun (mu12 : Mem) => (X9_breakRings mu12 : Option Mem).bind fun (mu14 : Mem) => (stI 258 mu14 1 208 0).bind fun mu15 => (X9_merge_L173 fu 1 mu15 : Option Mem).bind fun (mu18 : Mem) => some mu18
set_option maxHeartbeats 4000000 in
set_option maxRecDepth 100000 in
theorem c_X9_merge {l : Launch} {D : va_G} {A : Nat → Nat} {cI cZ cD : ClassId} {u u1 : Mem}  (hE : X9_merge u = some (u1)) : Ct l yX9_merge cX9_merge 5 none (rmOf 3 72) D (tyL cI cZ cD) [.ref (A 0)] (wY A cI u) none (wY A cI u1) := by
  refine Ct.ofW (by decide +kernel) (fun p e s m below meth c hC hI => ?_)
  obtain ⟨hx, hb, hml, hown, hr, hlk, hG⟩ := hC
  have hown : s.vm.findClass RX9 = some m.cls := hown
  have hl := lv_entry ([.ref (A 0)] : List Value) (n := 5) (Nat.le_of_ble_eq_true rfl)
  rw [lg_entry_eq]
  generalize (lg_sl ([.ref (A 0)] : List Value) ++ List.replicate (5 - (lg_sl ([.ref (A 0)] : List Value)).length) Slot.unset).toArray = ls at hl ⊢
  have hl : lv_has ls 5 [(0, .ref (A 0))] := hl
  unfold X9_merge at hE
  refine lv_aload_n hx hb dX9_merge_0 rfl (lv_at hl 0 rfl) ?_
  refine lv_iconst (v := 0) hx hb dX9_merge_1 (by decide) ?_
  obtain ⟨mu1, hu, hE⟩ := bd1_some hE
  refine xg_put (C := RX9) (T := TX9) (M := 22) hx hb hown hG hI (by omega) eY_0 rfl inX9 tyX9 tyX9_ok nmX9 13 (by decide) kf_X9_145 rfl (ty := .int) (by decide +kernel) rfl rfl (Nat.le_of_ble_eq_true rfl) rfl hu dX9_merge_2 (fun H locs hI => ?_)
  refine lv_iconst (v := 0) hx hb dX9_merge_5 (by decide) ?_
  refine lv_istore_n (lv' := [(1, .int 0), (0, .ref (A 0))]) hx hb dX9_merge_6 rfl hl (by decide) rfl (fun ls hl => ?_)
  obtain ⟨mu4, hZ, hE⟩ := bd1_some hE
  have hX7_4 : ∀ (H : Heap) (locs : List Loc) (ls : Array Slot), xI D (va_A (wY A cI u) s.heap.size) s.heap (wY A cI mu4) H locs → lv_has ls 5 [(0, .ref (A 0))] → W p l e (rmOf 3 72) s m ([.ref (A 0)] : List Value).toArray below meth c H locs 0 0 (xQ D (tyL cI cZ cD) below ([.ref (A 0)] : List Value).toArray s (wY A cI u) none (wY A cI u1)) (F0 m 24 ls []) := by
    intro H locs ls hI hl
    clear hZ
    refine lv_iconst (v := 0) hx hb dX9_merge_24 (by decide) ?_
    refine lv_istore_n (lv' := [(1, .int 0), (0, .ref (A 0))]) hx hb dX9_merge_25 rfl hl (by decide) rfl (fun ls hl => ?_)
    obtain ⟨mu8, hZ, hE⟩ := bd1_some hE
    have hX26_8 : ∀ (H : Heap) (locs : List Loc) (ls : Array Slot), xI D (va_A (wY A cI u) s.heap.size) s.heap (wY A cI mu8) H locs → lv_has ls 5 [(0, .ref (A 0))] → W p l e (rmOf 3 72) s m ([.ref (A 0)] : List Value).toArray below meth c H locs 0 0 (xQ D (tyL cI cZ cD) below ([.ref (A 0)] : List Value).toArray s (wY A cI u) none (wY A cI u1)) (F0 m 97 ls []) := by
      intro H locs ls hI hl
      clear hZ
      refine lv_iconst (v := 1) hx hb dX9_merge_97 (by decide) ?_
      refine lv_istore_n (lv' := [(1, .int 1), (0, .ref (A 0))]) hx hb dX9_merge_98 rfl hl (by decide) rfl (fun ls hl => ?_)
      obtain ⟨mu12, hZ, hE⟩ := bd1_some hE
      have hX99_12 : ∀ (H : Heap) (locs : List Loc) (ls : Array Slot), xI D (va_A (wY A cI u) s.heap.size) s.heap (wY A cI mu12) H locs → lv_has ls 5 [(0, .ref (A 0))] → W p l e (rmOf 3 72) s m ([.ref (A 0)] : List Value).toArray below meth c H locs 0 0 (xQ D (tyL cI cZ cD) below ([.ref (A 0)] : List Value).toArray s (wY A cI u) none (wY A cI u1)) (F0 m 158 ls []) := by
        intro H locs ls hI hl
        clear hZ
        refine lv_aload_n hx hb dX9_merge_158 rfl (lv_at hl 0 rfl) ?_
        obtain ⟨mu14, hc, hE⟩ := bd1_some hE
        refine xc_V0 (rest := []) (c_X9_breakRings hc) mw_X9_breakRings km_X9_177 hx hb hml hown hG hI xA_of (wG_atE (by omega) eY_0) rfl rfl ⟨Nat.le_of_ble_eq_true rfl, Nat.le_of_ble_eq_true rfl⟩ rfl hl.1 rfl (Nat.le_of_ble_eq_true rfl) dX9_merge_159 (fun H locs hI => ?_)
        refine lv_aload_n hx hb dX9_merge_162 rfl (lv_at hl 0 rfl) ?_
        refine xg_get (C := RX9) (T := TX9) (M := 22) hx hb hown hG hI (by omega) eY_0 rfl inX9 0 (by decide) kf_X9_7 rfl dX9_merge_163 ?_
        refine lv_sipush (v := 208) hx hb dX9_merge_166 (by decide) ?_
        refine lv_iconst (v := 0) hx hb dX9_merge_169 (by decide) ?_
        obtain ⟨mu15, hv, hE⟩ := bd1_some hE
        refine xg_iast 0 hx hb hG hI (by omega) eY_1 rfl hv dX9_merge_170 (fun H locs hI => ?_)
        refine lv_iconst (v := 1) hx hb dX9_merge_171 (by decide) ?_
        refine lv_istore_n (lv' := [(1, .int 1), (0, .ref (A 0))]) hx hb dX9_merge_172 rfl hl (by decide) rfl (fun ls hl => ?_)
        obtain ⟨mu18, hZ, hE⟩ := bd1_some hE
        have hX173_18 : ∀ (H : Heap) (locs : List Loc) (ls : Array Slot), xI D (va_A (wY A cI u) s.heap.size) s.heap (wY A cI mu18) H locs → lv_has ls 5 [] → W p l e (rmOf 3 72) s m ([.ref (A 0)] : List Value).toArray below meth c H locs 0 0 (xQ D (tyL cI cZ cD) below ([.ref (A 0)] : List Value).toArray s (wY A cI u) none (wY A cI u1)) (F0 m 301 ls []) := by
          intro H locs ls hI hl
          clear hZ
          obtain rfl := sm1 hE
          exact xr_v hx hb hr hlk hG hI dX9_merge_301
        replace hE := hZ
        clear hZ
        have hL173 : ∀ (n173 : Nat) (x16 : Int32) (mu17 : Mem) (H : Heap) (locs : List Loc) (ls : Array Slot), X9_merge_L173 n173 x16 mu17 = some mu18 → xI D (va_A (wY A cI u) s.heap.size) s.heap (wY A cI mu17) H locs → lv_has ls 5 [(0, .ref (A 0)), (1, .int x16)] → W p l e (rmOf 3 72) s m ([.ref (A 0)] : List Value).toArray below meth c H locs 0 0 (xQ D (tyL cI cZ cD) below ([.ref (A 0)] : List Value).toArray s (wY A cI u) none (wY A cI u1)) (F0 m 173 ls []) := by
          intro n173
          induction n173 with
          | zero =>
            intro x16 mu17 H locs ls hE
            exact absurd hE (by simp [X9_merge_L173])
          | succ n173 ih173 =>
            intro x16 mu17 H locs ls hE hI hl
            rw [X9_merge_L173] at hE
            refine lv_iload_n hx hb dX9_merge_173 rfl (lv_at hl 1 rfl) ?_
            refine lv_bipush (v := 16) hx hb dX9_merge_174 (by decide) ?_
            refine lv_icmp_ge (tgt := 301) hx hb dX9_merge_176 (by decide) (fun c176 => ?_) (fun c176 => ?_)
            · rw [if_pos c176] at hE
              obtain rfl := sm1 hE
              exact hX173_18 _ _ _ hI (lv_sub hl [] rfl)
            · rw [if_neg c176] at hE
              refine lv_iconst (v := 0) hx hb dX9_merge_179 (by decide) ?_
              refine lv_istore_n (lv' := [(2, .int 0), (0, .ref (A 0)), (1, .int x16)]) hx hb dX9_merge_180 rfl hl (by decide) rfl (fun ls hl => ?_)
              refine lv_iconst (v := 1) hx hb dX9_merge_181 (by decide) ?_
              refine lv_istore_n (lv' := [(3, .int 1), (2, .int 0), (0, .ref (A 0)), (1, .int x16)]) hx hb dX9_merge_182 rfl hl (by decide) rfl (fun ls hl => ?_)
              obtain ⟨x22, hZ, hE⟩ := bd1_some hE
              have hX183_22 : ∀ (H : Heap) (locs : List Loc) (ls : Array Slot), xI D (va_A (wY A cI u) s.heap.size) s.heap (wY A cI mu17) H locs → lv_has ls 5 [(0, .ref (A 0)), (1, .int x16), (2, .int x22)] → W p l e (rmOf 3 72) s m ([.ref (A 0)] : List Value).toArray below meth c H locs 0 0 (xQ D (tyL cI cZ cD) below ([.ref (A 0)] : List Value).toArray s (wY A cI u) none (wY A cI u1)) (F0 m 284 ls []) := by
                intro H locs ls hI hl
                clear hZ
                refine lv_aload_n hx hb dX9_merge_284 rfl (lv_at hl 0 rfl) ?_
                refine xg_get (C := RX9) (T := TX9) (M := 22) hx hb hown hG hI (by omega) eY_0 rfl inX9 0 (by decide) kf_X9_7 rfl dX9_merge_285 ?_
                refine lv_sipush (v := 208) hx hb dX9_merge_288 (by decide) ?_
                refine lv_iload_n hx hb dX9_merge_291 rfl (lv_at hl 1 rfl) ?_
                refine lv_iadd hx hb dX9_merge_292 ?_
                refine lv_iload_n hx hb dX9_merge_293 rfl (lv_at hl 2 rfl) ?_
                obtain ⟨mu24, hv, hE⟩ := bd1_some hE
                refine xg_iast 0 hx hb hG hI (by omega) eY_1 rfl hv dX9_merge_294 (fun H locs hI => ?_)
                refine lv_iinc (v := x16 + 1) (lv' := [(1, .int (x16 + 1)), (0, .ref (A 0)), (2, .int x22)]) hx hb dX9_merge_295 hl (k := 1) rfl rfl (by decide) rfl (fun ls hl => ?_)
                refine lv_goto (tgt := 173) hx hb dX9_merge_298 (by decide) ?_
                exact ih173 _ _ _ _ _ hE hI (lv_sub hl [1, 0] rfl)
              replace hE := hZ
              clear hZ
              have hL183 : ∀ (n183 : Nat) (x20 : Int32) (x21 : Int32) (H : Heap) (locs : List Loc) (ls : Array Slot), X9_merge_L183 x16 mu17 n183 x20 x21 = some x22 → xI D (va_A (wY A cI u) s.heap.size) s.heap (wY A cI mu17) H locs → lv_has ls 5 [(0, .ref (A 0)), (1, .int x16), (2, .int x20), (3, .int x21)] → W p l e (rmOf 3 72) s m ([.ref (A 0)] : List Value).toArray below meth c H locs 0 0 (xQ D (tyL cI cZ cD) below ([.ref (A 0)] : List Value).toArray s (wY A cI u) none (wY A cI u1)) (F0 m 183 ls []) := by
                intro n183
                induction n183 with
                | zero =>
                  intro x20 x21 H locs ls hE
                  exact absurd hE (by simp [X9_merge_L183])
                | succ n183 ih183 =>
                  intro x20 x21 H locs ls hE hI hl
                  rw [X9_merge_L183] at hE
                  refine lv_iload_n hx hb dX9_merge_183 rfl (lv_at hl 3 rfl) ?_
                  refine lv_bipush (v := 16) hx hb dX9_merge_184 (by decide) ?_
                  refine lv_icmp_ge (tgt := 284) hx hb dX9_merge_186 (by decide) (fun c186 => ?_) (fun c186 => ?_)
                  · rw [if_pos c186] at hE
                    obtain rfl := sm1 hE
                    exact hX183_22 _ _ _ hI (lv_sub hl [0, 1, 2] rfl)
                  · rw [if_neg c186] at hE
                    refine lv_aload_n hx hb dX9_merge_189 rfl (lv_at hl 0 rfl) ?_
                    refine lv_iconst (v := 3) hx hb dX9_merge_190 (by decide) ?_
                    refine lv_iload_n hx hb dX9_merge_191 rfl (lv_at hl 1 rfl) ?_
                    obtain ⟨r25, hc, hE⟩ := bd1_some hE
                    refine xc_V1 (rest := []) (c_X9_isIn hc) mw_X9_isIn km_X9_72 hx hb hml hown hG hI xA_of (wG_atE (by omega) eY_0) rfl rfl ⟨Nat.le_of_ble_eq_true rfl, Nat.le_of_ble_eq_true rfl⟩ rfl hl.1 rfl (Nat.le_of_ble_eq_true rfl) dX9_merge_192 (fun H locs hI => ?_)
                    refine lv_if_eq (tgt := 284) hx hb dX9_merge_195 (by decide) (fun c195 => ?_) (fun c195 => ?_)
                    · rw [if_pos c195] at hE
                      obtain rfl := sm1 hE
                      exact hX183_22 _ _ _ hI (lv_sub hl [0, 1, 2] rfl)
                    · rw [if_neg c195] at hE
                      refine lv_iload_n hx hb dX9_merge_198 rfl (lv_at hl 3 rfl) ?_
                      refine lv_iload_n hx hb dX9_merge_199 rfl (lv_at hl 1 rfl) ?_
                      obtain ⟨x26, hZ, hE⟩ := bd1_some hE
                      have hJ232_26 : ∀ (H : Heap) (locs : List Loc) (ls : Array Slot), xI D (va_A (wY A cI u) s.heap.size) s.heap (wY A cI mu17) H locs → lv_has ls 5 [(0, .ref (A 0)), (1, .int x16), (2, .int x20), (3, .int x21)] → W p l e (rmOf 3 72) s m ([.ref (A 0)] : List Value).toArray below meth c H locs 0 0 (xQ D (tyL cI cZ cD) below ([.ref (A 0)] : List Value).toArray s (wY A cI u) none (wY A cI u1)) (F0 m 232 ls [.int x26]) := by
                        intro H locs ls hI hl
                        clear hZ
                        refine lv_istore (lv' := [(4, .int x26), (0, .ref (A 0)), (1, .int x16), (2, .int x20), (3, .int x21)]) hx hb dX9_merge_232 hl (by decide) rfl (fun ls hl => ?_)
                        refine lv_iload_n hx hb dX9_merge_234 rfl (lv_at hl 3 rfl) ?_
                        refine lv_iload hx hb dX9_merge_235 (lv_at hl 0 rfl) ?_
                        obtain ⟨x28, hZ, hE⟩ := bd1_some hE
                        have hJ276_28 : ∀ (H : Heap) (locs : List Loc) (ls : Array Slot), xI D (va_A (wY A cI u) s.heap.size) s.heap (wY A cI mu17) H locs → lv_has ls 5 [(0, .ref (A 0)), (1, .int x16), (3, .int x21)] → W p l e (rmOf 3 72) s m ([.ref (A 0)] : List Value).toArray below meth c H locs 0 0 (xQ D (tyL cI cZ cD) below ([.ref (A 0)] : List Value).toArray s (wY A cI u) none (wY A cI u1)) (F0 m 276 ls [.int x28, .int x20]) := by
                          intro H locs ls hI hl
                          clear hZ
                          refine lv_iadd hx hb dX9_merge_276 ?_
                          refine lv_istore_n (lv' := [(2, .int (x20 + x28)), (0, .ref (A 0)), (1, .int x16), (3, .int x21)]) hx hb dX9_merge_277 rfl hl (by decide) rfl (fun ls hl => ?_)
                          refine lv_iinc (v := x21 + 1) (lv' := [(3, .int (x21 + 1)), (2, .int (x20 + x28)), (0, .ref (A 0)), (1, .int x16)]) hx hb dX9_merge_278 hl (k := 3) rfl rfl (by decide) rfl (fun ls hl => ?_)
                          refine lv_goto (tgt := 183) hx hb dX9_merge_281 (by decide) ?_
                          exact ih183 _ _ _ _ _ hE hI (lv_sub hl [2, 3, 1, 0] rfl)
                        replace hE := hZ
                        clear hZ
                        refine lv_if_eq (tgt := 275) hx hb dX9_merge_237 (by decide) (fun c237 => ?_) (fun c237 => ?_)
                        · rw [if_pos c237] at hE
                          refine lv_iconst (v := 0) hx hb dX9_merge_275 (by decide) ?_
                          obtain rfl := sm1 hE
                          exact hJ276_28 _ _ _ hI (lv_sub hl [1, 2, 4] rfl)
                        · rw [if_neg c237] at hE
                          refine lv_aload_n hx hb dX9_merge_240 rfl (lv_at hl 1 rfl) ?_
                          refine lv_iload_n hx hb dX9_merge_241 rfl (lv_at hl 4 rfl) ?_
                          obtain ⟨r30, hc, hE⟩ := bd1_some hE
                          refine xc_V1 (rest := [.int x20]) (c_X9_keyOf hc) mw_X9_keyOf km_X9_180 hx hb hml hown hG hI xA_of (wG_atE (by omega) eY_0) rfl rfl ⟨Nat.le_of_ble_eq_true rfl, Nat.le_of_ble_eq_true rfl⟩ rfl hl.1 rfl (Nat.le_of_ble_eq_true rfl) dX9_merge_242 (fun H locs hI => ?_)
                          refine lv_aload_n hx hb dX9_merge_245 rfl (lv_at hl 1 rfl) ?_
                          refine lv_iload_n hx hb dX9_merge_246 rfl (lv_at hl 2 rfl) ?_
                          obtain ⟨r31, hc, hE⟩ := bd1_some hE
                          refine xc_V1 (rest := [.int r30, .int x20]) (c_X9_keyOf hc) mw_X9_keyOf km_X9_180 hx hb hml hown hG hI xA_of (wG_atE (by omega) eY_0) rfl rfl ⟨Nat.le_of_ble_eq_true rfl, Nat.le_of_ble_eq_true rfl⟩ rfl hl.1 rfl (Nat.le_of_ble_eq_true rfl) dX9_merge_247 (fun H locs hI => ?_)
                          refine lv_icmp_lt (tgt := 271) hx hb dX9_merge_250 (by decide) (fun c250 => ?_) (fun c250 => ?_)
                          · rw [if_pos c250] at hE
                            refine lv_iconst (v := 1) hx hb dX9_merge_271 (by decide) ?_
                            refine lv_goto (tgt := 276) hx hb dX9_merge_272 (by decide) ?_
                            obtain rfl := sm1 hE
                            exact hJ276_28 _ _ _ hI (lv_sub hl [1, 2, 4] rfl)
                          · rw [if_neg c250] at hE
                            refine lv_aload_n hx hb dX9_merge_253 rfl (lv_at hl 1 rfl) ?_
                            refine lv_iload_n hx hb dX9_merge_254 rfl (lv_at hl 4 rfl) ?_
                            obtain ⟨r32, hc, hE⟩ := bd1_some hE
                            refine xc_V1 (rest := [.int x20]) (c_X9_keyOf hc) mw_X9_keyOf km_X9_180 hx hb hml hown hG hI xA_of (wG_atE (by omega) eY_0) rfl rfl ⟨Nat.le_of_ble_eq_true rfl, Nat.le_of_ble_eq_true rfl⟩ rfl hl.1 rfl (Nat.le_of_ble_eq_true rfl) dX9_merge_255 (fun H locs hI => ?_)
                            refine lv_aload_n hx hb dX9_merge_258 rfl (lv_at hl 1 rfl) ?_
                            refine lv_iload_n hx hb dX9_merge_259 rfl (lv_at hl 2 rfl) ?_
                            obtain ⟨r33, hc, hE⟩ := bd1_some hE
                            refine xc_V1 (rest := [.int r32, .int x20]) (c_X9_keyOf hc) mw_X9_keyOf km_X9_180 hx hb hml hown hG hI xA_of (wG_atE (by omega) eY_0) rfl rfl ⟨Nat.le_of_ble_eq_true rfl, Nat.le_of_ble_eq_true rfl⟩ rfl hl.1 rfl (Nat.le_of_ble_eq_true rfl) dX9_merge_260 (fun H locs hI => ?_)
                            refine lv_icmp_ne (tgt := 275) hx hb dX9_merge_263 (by decide) (fun c263 => ?_) (fun c263 => ?_)
                            · rw [if_neg c263] at hE
                              refine lv_iconst (v := 0) hx hb dX9_merge_275 (by decide) ?_
                              obtain rfl := sm1 hE
                              exact hJ276_28 _ _ _ hI (lv_sub hl [1, 2, 4] rfl)
                            · rw [if_pos c263] at hE
                              refine lv_iload_n hx hb dX9_merge_266 rfl (lv_at hl 4 rfl) ?_
                              refine lv_iload_n hx hb dX9_merge_267 rfl (lv_at hl 2 rfl) ?_
                              refine lv_icmp_ge (tgt := 275) hx hb dX9_merge_268 (by decide) (fun c268 => ?_) (fun c268 => ?_)
                              · rw [if_pos c268] at hE
                                refine lv_iconst (v := 0) hx hb dX9_merge_275 (by decide) ?_
                                obtain rfl := sm1 hE
                                exact hJ276_28 _ _ _ hI (lv_sub hl [1, 2, 4] rfl)
                              · rw [if_neg c268] at hE
                                refine lv_iconst (v := 1) hx hb dX9_merge_271 (by decide) ?_
                                refine lv_goto (tgt := 276) hx hb dX9_merge_272 (by decide) ?_
                                obtain rfl := sm1 hE
                                exact hJ276_28 _ _ _ hI (lv_sub hl [1, 2, 4] rfl)
                      replace hE := hZ
                      clear hZ
                      refine lv_icmp_eq (tgt := 231) hx hb dX9_merge_200 (by decide) (fun c200 => ?_) (fun c200 => ?_)
                      · rw [if_pos c200] at hE
                        refine lv_iconst (v := 0) hx hb dX9_merge_231 (by decide) ?_
                        obtain rfl := sm1 hE
                        exact hJ232_26 _ _ _ hI (lv_sub hl [0, 1, 2, 3] rfl)
                      · rw [if_neg c200] at hE
                        refine lv_aload_n hx hb dX9_merge_203 rfl (lv_at hl 0 rfl) ?_
                        refine lv_iconst (v := 3) hx hb dX9_merge_204 (by decide) ?_
                        refine lv_iload_n hx hb dX9_merge_205 rfl (lv_at hl 3 rfl) ?_
                        obtain ⟨r34, hc, hE⟩ := bd1_some hE
                        refine xc_V1 (rest := []) (c_X9_isIn hc) mw_X9_isIn km_X9_72 hx hb hml hown hG hI xA_of (wG_atE (by omega) eY_0) rfl rfl ⟨Nat.le_of_ble_eq_true rfl, Nat.le_of_ble_eq_true rfl⟩ rfl hl.1 rfl (Nat.le_of_ble_eq_true rfl) dX9_merge_206 (fun H locs hI => ?_)
                        refine lv_if_eq (tgt := 231) hx hb dX9_merge_209 (by decide) (fun c209 => ?_) (fun c209 => ?_)
                        · rw [if_pos c209] at hE
                          refine lv_iconst (v := 0) hx hb dX9_merge_231 (by decide) ?_
                          obtain rfl := sm1 hE
                          exact hJ232_26 _ _ _ hI (lv_sub hl [0, 1, 2, 3] rfl)
                        · rw [if_neg c209] at hE
                          refine lv_aload_n hx hb dX9_merge_212 rfl (lv_at hl 0 rfl) ?_
                          refine lv_iconst (v := 3) hx hb dX9_merge_213 (by decide) ?_
                          refine lv_iload_n hx hb dX9_merge_214 rfl (lv_at hl 3 rfl) ?_
                          obtain ⟨r35, hc, hE⟩ := bd1_some hE
                          refine xc_V1 (rest := []) (c_X9_parentOf hc) mw_X9_parentOf km_X9_76 hx hb hml hown hG hI xA_of (wG_atE (by omega) eY_0) rfl rfl ⟨Nat.le_of_ble_eq_true rfl, Nat.le_of_ble_eq_true rfl⟩ rfl hl.1 rfl (Nat.le_of_ble_eq_true rfl) dX9_merge_215 (fun H locs hI => ?_)
                          refine lv_aload_n hx hb dX9_merge_218 rfl (lv_at hl 0 rfl) ?_
                          refine lv_iconst (v := 3) hx hb dX9_merge_219 (by decide) ?_
                          refine lv_iload_n hx hb dX9_merge_220 rfl (lv_at hl 1 rfl) ?_
                          obtain ⟨r36, hc, hE⟩ := bd1_some hE
                          refine xc_V1 (rest := [.int r35]) (c_X9_parentOf hc) mw_X9_parentOf km_X9_76 hx hb hml hown hG hI xA_of (wG_atE (by omega) eY_0) rfl rfl ⟨Nat.le_of_ble_eq_true rfl, Nat.le_of_ble_eq_true rfl⟩ rfl hl.1 rfl (Nat.le_of_ble_eq_true rfl) dX9_merge_221 (fun H locs hI => ?_)
                          refine lv_icmp_ne (tgt := 231) hx hb dX9_merge_224 (by decide) (fun c224 => ?_) (fun c224 => ?_)
                          · rw [if_neg c224] at hE
                            refine lv_iconst (v := 0) hx hb dX9_merge_231 (by decide) ?_
                            obtain rfl := sm1 hE
                            exact hJ232_26 _ _ _ hI (lv_sub hl [0, 1, 2, 3] rfl)
                          · rw [if_pos c224] at hE
                            refine lv_iconst (v := 1) hx hb dX9_merge_227 (by decide) ?_
                            refine lv_goto (tgt := 232) hx hb dX9_merge_228 (by decide) ?_
                            obtain rfl := sm1 hE
                            exact hJ232_26 _ _ _ hI (lv_sub hl [0, 1, 2, 3] rfl)
              exact hL183 _ _ _ _ _ _ hE hI (lv_sub hl [2, 3, 1, 0] rfl)
        exact hL173 _ _ _ _ _ _ hE hI (lv_sub hl [1, 0] rfl)
      replace hE := hZ
      clear hZ
      have hL99 : ∀ (n99 : Nat) (x10 : Int32) (mu11 : Mem) (H : Heap) (locs : List Loc) (ls : Array Slot), X9_merge_L99 n99 x10 mu11 = some mu12 → xI D (va_A (wY A cI u) s.heap.size) s.heap (wY A cI mu11) H locs → lv_has ls 5 [(0, .ref (A 0)), (1, .int x10)] → W p l e (rmOf 3 72) s m ([.ref (A 0)] : List Value).toArray below meth c H locs 0 0 (xQ D (tyL cI cZ cD) below ([.ref (A 0)] : List Value).toArray s (wY A cI u) none (wY A cI u1)) (F0 m 99 ls []) := by
        intro n99
        induction n99 with
        | zero =>
          intro x10 mu11 H locs ls hE
          exact absurd hE (by simp [X9_merge_L99])
        | succ n99 ih99 =>
          intro x10 mu11 H locs ls hE hI hl
          rw [X9_merge_L99] at hE
          refine lv_iload_n hx hb dX9_merge_99 rfl (lv_at hl 1 rfl) ?_
          refine lv_bipush (v := 16) hx hb dX9_merge_100 (by decide) ?_
          refine lv_icmp_ge (tgt := 158) hx hb dX9_merge_102 (by decide) (fun c102 => ?_) (fun c102 => ?_)
          · rw [if_pos c102] at hE
            obtain rfl := sm1 hE
            exact hX99_12 _ _ _ hI (lv_sub hl [0] rfl)
          · rw [if_neg c102] at hE
            refine lv_aload_n hx hb dX9_merge_105 rfl (lv_at hl 0 rfl) ?_
            refine lv_iconst (v := 3) hx hb dX9_merge_106 (by decide) ?_
            refine lv_iload_n hx hb dX9_merge_107 rfl (lv_at hl 1 rfl) ?_
            obtain ⟨r37, hc, hE⟩ := bd1_some hE
            refine xc_V1 (rest := []) (c_X9_parentOf hc) mw_X9_parentOf km_X9_76 hx hb hml hown hG hI xA_of (wG_atE (by omega) eY_0) rfl rfl ⟨Nat.le_of_ble_eq_true rfl, Nat.le_of_ble_eq_true rfl⟩ rfl hl.1 rfl (Nat.le_of_ble_eq_true rfl) dX9_merge_108 (fun H locs hI => ?_)
            refine lv_istore_n (lv' := [(2, .int r37), (0, .ref (A 0)), (1, .int x10)]) hx hb dX9_merge_111 rfl hl (by decide) rfl (fun ls hl => ?_)
            refine lv_aload_n hx hb dX9_merge_112 rfl (lv_at hl 1 rfl) ?_
            refine lv_iconst (v := 3) hx hb dX9_merge_113 (by decide) ?_
            refine lv_iload_n hx hb dX9_merge_114 rfl (lv_at hl 2 rfl) ?_
            obtain ⟨r38, hc, hE⟩ := bd1_some hE
            refine xc_V1 (rest := []) (c_X9_isIn hc) mw_X9_isIn km_X9_72 hx hb hml hown hG hI xA_of (wG_atE (by omega) eY_0) rfl rfl ⟨Nat.le_of_ble_eq_true rfl, Nat.le_of_ble_eq_true rfl⟩ rfl hl.1 rfl (Nat.le_of_ble_eq_true rfl) dX9_merge_115 (fun H locs hI => ?_)
            refine lv_if_eq (tgt := 152) hx hb dX9_merge_118 (by decide) (fun c118 => ?_) (fun c118 => ?_)
            · rw [if_pos c118] at hE
              refine lv_iinc (v := x10 + 1) (lv' := [(1, .int (x10 + 1)), (2, .int r37), (0, .ref (A 0))]) hx hb dX9_merge_152 hl (k := 2) rfl rfl (by decide) rfl (fun ls hl => ?_)
              refine lv_goto (tgt := 99) hx hb dX9_merge_155 (by decide) ?_
              exact ih99 _ _ _ _ _ hE hI (lv_sub hl [2, 0] rfl)
            · rw [if_neg c118] at hE
              refine lv_aload_n hx hb dX9_merge_121 rfl (lv_at hl 1 rfl) ?_
              refine lv_iconst (v := 3) hx hb dX9_merge_122 (by decide) ?_
              refine lv_iload_n hx hb dX9_merge_123 rfl (lv_at hl 0 rfl) ?_
              obtain ⟨r39, hc, hE⟩ := bd1_some hE
              refine xc_V1 (rest := []) (c_X9_isIn hc) mw_X9_isIn km_X9_72 hx hb hml hown hG hI xA_of (wG_atE (by omega) eY_0) rfl rfl ⟨Nat.le_of_ble_eq_true rfl, Nat.le_of_ble_eq_true rfl⟩ rfl hl.1 rfl (Nat.le_of_ble_eq_true rfl) dX9_merge_124 (fun H locs hI => ?_)
              refine lv_if_ne (tgt := 152) hx hb dX9_merge_127 (by decide) (fun c127 => ?_) (fun c127 => ?_)
              · rw [if_neg c127] at hE
                refine lv_iinc (v := x10 + 1) (lv' := [(1, .int (x10 + 1)), (2, .int r37), (0, .ref (A 0))]) hx hb dX9_merge_152 hl (k := 2) rfl rfl (by decide) rfl (fun ls hl => ?_)
                refine lv_goto (tgt := 99) hx hb dX9_merge_155 (by decide) ?_
                exact ih99 _ _ _ _ _ hE hI (lv_sub hl [2, 0] rfl)
              · rw [if_pos c127] at hE
                refine lv_aload_n hx hb dX9_merge_130 rfl (lv_at hl 1 rfl) ?_
                refine lv_iconst (v := 4) hx hb dX9_merge_131 (by decide) ?_
                refine lv_iload_n hx hb dX9_merge_132 rfl (lv_at hl 2 rfl) ?_
                refine lv_iload_n hx hb dX9_merge_133 rfl (lv_at hl 0 rfl) ?_
                obtain ⟨mu40, hc, hE⟩ := bd1_some hE
                refine xc_V0 (rest := []) (c_X9_conflict hc) mw_X9_conflict km_X9_157 hx hb hml hown hG hI xA_of (wG_atE (by omega) eY_0) rfl rfl ⟨Nat.le_of_ble_eq_true rfl, Nat.le_of_ble_eq_true rfl⟩ rfl hl.1 rfl (Nat.le_of_ble_eq_true rfl) dX9_merge_134 (fun H locs hI => ?_)
                refine lv_aload_n hx hb dX9_merge_137 rfl (lv_at hl 1 rfl) ?_
                refine xg_get (C := RX9) (T := TX9) (M := 22) hx hb hown hG hI (by omega) eY_0 rfl inX9 0 (by decide) kf_X9_7 rfl dX9_merge_138 ?_
                refine lv_sipush (v := 192) hx hb dX9_merge_141 (by decide) ?_
                refine lv_iload_n hx hb dX9_merge_144 rfl (lv_at hl 2 rfl) ?_
                refine lv_iadd hx hb dX9_merge_145 ?_
                refine lv_aload_n hx hb dX9_merge_146 rfl (lv_at hl 1 rfl) ?_
                refine lv_iload_n hx hb dX9_merge_147 rfl (lv_at hl 0 rfl) ?_
                obtain ⟨r41, hc, hE⟩ := bd1_some hE
                refine xc_V1 (rest := [.int (192 + x10), .ref (A 1)]) (c_X9_nearest hc) mw_X9_nearest km_X9_167 hx hb hml hown hG hI xA_of (wG_atE (by omega) eY_0) rfl rfl ⟨Nat.le_of_ble_eq_true rfl, Nat.le_of_ble_eq_true rfl⟩ rfl hl.1 rfl (Nat.le_of_ble_eq_true rfl) dX9_merge_148 (fun H locs hI => ?_)
                obtain ⟨mu42, hv, hE⟩ := bd1_some hE
                refine xg_iast 0 hx hb hG hI (by omega) eY_1 rfl hv dX9_merge_151 (fun H locs hI => ?_)
                refine lv_iinc (v := x10 + 1) (lv' := [(1, .int (x10 + 1)), (2, .int r37), (0, .ref (A 0))]) hx hb dX9_merge_152 hl (k := 2) rfl rfl (by decide) rfl (fun ls hl => ?_)
                refine lv_goto (tgt := 99) hx hb dX9_merge_155 (by decide) ?_
                exact ih99 _ _ _ _ _ hE hI (lv_sub hl [2, 0] rfl)
      exact hL99 _ _ _ _ _ _ hE hI (lv_sub hl [1, 0] rfl)
    replace hE := hZ
    clear hZ
    have hL26 : ∀ (n26 : Nat) (x6 : Int32) (mu7 : Mem) (H : Heap) (locs : List Loc) (ls : Array Slot), X9_merge_L26 n26 x6 mu7 = some mu8 → xI D (va_A (wY A cI u) s.heap.size) s.heap (wY A cI mu7) H locs → lv_has ls 5 [(0, .ref (A 0)), (1, .int x6)] → W p l e (rmOf 3 72) s m ([.ref (A 0)] : List Value).toArray below meth c H locs 0 0 (xQ D (tyL cI cZ cD) below ([.ref (A 0)] : List Value).toArray s (wY A cI u) none (wY A cI u1)) (F0 m 26 ls []) := by
      intro n26
      induction n26 with
      | zero =>
        intro x6 mu7 H locs ls hE
        exact absurd hE (by simp [X9_merge_L26])
      | succ n26 ih26 =>
        intro x6 mu7 H locs ls hE hI hl
        rw [X9_merge_L26] at hE
        refine lv_iload_n hx hb dX9_merge_26 rfl (lv_at hl 1 rfl) ?_
        refine lv_iconst (v := 3) hx hb dX9_merge_27 (by decide) ?_
        refine lv_icmp_ge (tgt := 97) hx hb dX9_merge_28 (by decide) (fun c28 => ?_) (fun c28 => ?_)
        · rw [if_pos c28] at hE
          obtain rfl := sm1 hE
          exact hX26_8 _ _ _ hI (lv_sub hl [0] rfl)
        · rw [if_neg c28] at hE
          refine lv_iload_n hx hb dX9_merge_31 rfl (lv_at hl 1 rfl) ?_
          obtain ⟨x43, hZ, hE⟩ := bd1_some hE
          have hJ51_43 : ∀ (H : Heap) (locs : List Loc) (ls : Array Slot), xI D (va_A (wY A cI u) s.heap.size) s.heap (wY A cI mu7) H locs → lv_has ls 5 [(0, .ref (A 0)), (1, .int x6)] → W p l e (rmOf 3 72) s m ([.ref (A 0)] : List Value).toArray below meth c H locs 0 0 (xQ D (tyL cI cZ cD) below ([.ref (A 0)] : List Value).toArray s (wY A cI u) none (wY A cI u1)) (F0 m 51 ls [.int x43]) := by
            intro H locs ls hI hl
            clear hZ
            refine lv_istore_n (lv' := [(2, .int x43), (0, .ref (A 0)), (1, .int x6)]) hx hb dX9_merge_51 rfl hl (by decide) rfl (fun ls hl => ?_)
            refine lv_iload_n hx hb dX9_merge_52 rfl (lv_at hl 2 rfl) ?_
            refine lv_iconst (v := 2) hx hb dX9_merge_53 (by decide) ?_
            obtain ⟨x45, hZ, hE⟩ := bd1_some hE
            have hJ62_45 : ∀ (H : Heap) (locs : List Loc) (ls : Array Slot), xI D (va_A (wY A cI u) s.heap.size) s.heap (wY A cI mu7) H locs → lv_has ls 5 [(0, .ref (A 0)), (1, .int x6), (2, .int x43)] → W p l e (rmOf 3 72) s m ([.ref (A 0)] : List Value).toArray below meth c H locs 0 0 (xQ D (tyL cI cZ cD) below ([.ref (A 0)] : List Value).toArray s (wY A cI u) none (wY A cI u1)) (F0 m 62 ls [.int x45]) := by
              intro H locs ls hI hl
              clear hZ
              refine lv_istore_n (lv' := [(3, .int x45), (0, .ref (A 0)), (1, .int x6), (2, .int x43)]) hx hb dX9_merge_62 rfl hl (by decide) rfl (fun ls hl => ?_)
              obtain ⟨mu49, hZ, hE⟩ := bd1_some hE
              have hX63_49 : ∀ (H : Heap) (locs : List Loc) (ls : Array Slot), xI D (va_A (wY A cI u) s.heap.size) s.heap (wY A cI mu49) H locs → lv_has ls 5 [(0, .ref (A 0)), (1, .int x6)] → W p l e (rmOf 3 72) s m ([.ref (A 0)] : List Value).toArray below meth c H locs 0 0 (xQ D (tyL cI cZ cD) below ([.ref (A 0)] : List Value).toArray s (wY A cI u) none (wY A cI u1)) (F0 m 91 ls []) := by
                intro H locs ls hI hl
                clear hZ
                refine lv_iinc (v := x6 + 1) (lv' := [(1, .int (x6 + 1)), (0, .ref (A 0))]) hx hb dX9_merge_91 hl (k := 1) rfl rfl (by decide) rfl (fun ls hl => ?_)
                refine lv_goto (tgt := 26) hx hb dX9_merge_94 (by decide) ?_
                exact ih26 _ _ _ _ _ hE hI (lv_sub hl [1, 0] rfl)
              replace hE := hZ
              clear hZ
              have hL63 : ∀ (n63 : Nat) (x47 : Int32) (mu48 : Mem) (H : Heap) (locs : List Loc) (ls : Array Slot), X9_merge_L63 x6 x43 n63 x47 mu48 = some mu49 → xI D (va_A (wY A cI u) s.heap.size) s.heap (wY A cI mu48) H locs → lv_has ls 5 [(0, .ref (A 0)), (1, .int x6), (2, .int x43), (3, .int x47)] → W p l e (rmOf 3 72) s m ([.ref (A 0)] : List Value).toArray below meth c H locs 0 0 (xQ D (tyL cI cZ cD) below ([.ref (A 0)] : List Value).toArray s (wY A cI u) none (wY A cI u1)) (F0 m 63 ls []) := by
                intro n63
                induction n63 with
                | zero =>
                  intro x47 mu48 H locs ls hE
                  exact absurd hE (by simp [X9_merge_L63])
                | succ n63 ih63 =>
                  intro x47 mu48 H locs ls hE hI hl
                  rw [X9_merge_L63] at hE
                  refine lv_iload_n hx hb dX9_merge_63 rfl (lv_at hl 3 rfl) ?_
                  refine lv_bipush (v := 16) hx hb dX9_merge_64 (by decide) ?_
                  refine lv_icmp_ge (tgt := 91) hx hb dX9_merge_66 (by decide) (fun c66 => ?_) (fun c66 => ?_)
                  · rw [if_pos c66] at hE
                    obtain rfl := sm1 hE
                    exact hX63_49 _ _ _ hI (lv_sub hl [0, 1] rfl)
                  · rw [if_neg c66] at hE
                    refine lv_aload_n hx hb dX9_merge_69 rfl (lv_at hl 0 rfl) ?_
                    refine lv_iconst (v := 3) hx hb dX9_merge_70 (by decide) ?_
                    refine lv_iload_n hx hb dX9_merge_71 rfl (lv_at hl 3 rfl) ?_
                    obtain ⟨r51, hc, hE⟩ := bd1_some hE
                    refine xc_V1 (rest := []) (c_X9_isIn hc) mw_X9_isIn km_X9_72 hx hb hml hown hG hI xA_of (wG_atE (by omega) eY_0) rfl rfl ⟨Nat.le_of_ble_eq_true rfl, Nat.le_of_ble_eq_true rfl⟩ rfl hl.1 rfl (Nat.le_of_ble_eq_true rfl) dX9_merge_72 (fun H locs hI => ?_)
                    refine lv_if_eq (tgt := 85) hx hb dX9_merge_75 (by decide) (fun c75 => ?_) (fun c75 => ?_)
                    · rw [if_pos c75] at hE
                      refine lv_iinc (v := x47 + 1) (lv' := [(3, .int (x47 + 1)), (0, .ref (A 0)), (1, .int x6), (2, .int x43)]) hx hb dX9_merge_85 hl (k := 3) rfl rfl (by decide) rfl (fun ls hl => ?_)
                      refine lv_goto (tgt := 63) hx hb dX9_merge_88 (by decide) ?_
                      exact ih63 _ _ _ _ _ hE hI (lv_sub hl [1, 2, 3, 0] rfl)
                    · rw [if_neg c75] at hE
                      refine lv_aload_n hx hb dX9_merge_78 rfl (lv_at hl 0 rfl) ?_
                      refine lv_iload_n hx hb dX9_merge_79 rfl (lv_at hl 2 rfl) ?_
                      refine lv_iload_n hx hb dX9_merge_80 rfl (lv_at hl 3 rfl) ?_
                      refine lv_iload_n hx hb dX9_merge_81 rfl (lv_at hl 1 rfl) ?_
                      obtain ⟨mu52, hc, hE⟩ := bd1_some hE
                      refine xc_V0 (rest := []) (c_X9_settle hc) mw_X9_settle km_X9_174 hx hb hml hown hG hI xA_of (wG_atE (by omega) eY_0) rfl rfl ⟨Nat.le_of_ble_eq_true rfl, Nat.le_of_ble_eq_true rfl⟩ rfl hl.1 rfl (Nat.le_of_ble_eq_true rfl) dX9_merge_82 (fun H locs hI => ?_)
                      refine lv_iinc (v := x47 + 1) (lv' := [(3, .int (x47 + 1)), (0, .ref (A 0)), (1, .int x6), (2, .int x43)]) hx hb dX9_merge_85 hl (k := 3) rfl rfl (by decide) rfl (fun ls hl => ?_)
                      refine lv_goto (tgt := 63) hx hb dX9_merge_88 (by decide) ?_
                      exact ih63 _ _ _ _ _ hE hI (lv_sub hl [1, 2, 3, 0] rfl)
              exact hL63 _ _ _ _ _ _ hE hI (lv_sub hl [1, 2, 3, 0] rfl)
            replace hE := hZ
            clear hZ
            refine lv_icmp_ne (tgt := 61) hx hb dX9_merge_54 (by decide) (fun c54 => ?_) (fun c54 => ?_)
            · rw [if_neg c54] at hE
              refine lv_iconst (v := 0) hx hb dX9_merge_61 (by decide) ?_
              obtain rfl := sm1 hE
              exact hJ62_45 _ _ _ hI (lv_sub hl [1, 2, 0] rfl)
            · rw [if_pos c54] at hE
              refine lv_iconst (v := 1) hx hb dX9_merge_57 (by decide) ?_
              refine lv_goto (tgt := 62) hx hb dX9_merge_58 (by decide) ?_
              obtain rfl := sm1 hE
              exact hJ62_45 _ _ _ hI (lv_sub hl [1, 2, 0] rfl)
          replace hE := hZ
          clear hZ
          refine lv_if_ne (tgt := 40) hx hb dX9_merge_32 (by decide) (fun c32 => ?_) (fun c32 => ?_)
          · rw [if_neg c32] at hE
            refine lv_iload_n hx hb dX9_merge_40 rfl (lv_at hl 1 rfl) ?_
            refine lv_iconst (v := 1) hx hb dX9_merge_41 (by decide) ?_
            refine lv_icmp_ne (tgt := 50) hx hb dX9_merge_42 (by decide) (fun c42 => ?_) (fun c42 => ?_)
            · rw [if_neg c42] at hE
              refine lv_iconst (v := 0) hx hb dX9_merge_50 (by decide) ?_
              obtain rfl := sm1 hE
              exact hJ51_43 _ _ _ hI (lv_sub hl [0, 1] rfl)
            · rw [if_pos c42] at hE
              refine lv_bipush (v := 48) hx hb dX9_merge_45 (by decide) ?_
              refine lv_goto (tgt := 51) hx hb dX9_merge_47 (by decide) ?_
              obtain rfl := sm1 hE
              exact hJ51_43 _ _ _ hI (lv_sub hl [0, 1] rfl)
          · rw [if_pos c32] at hE
            refine lv_bipush (v := 32) hx hb dX9_merge_35 (by decide) ?_
            refine lv_goto (tgt := 51) hx hb dX9_merge_37 (by decide) ?_
            obtain rfl := sm1 hE
            exact hJ51_43 _ _ _ hI (lv_sub hl [0, 1] rfl)
    exact hL26 _ _ _ _ _ _ hE hI (lv_sub hl [1, 0] rfl)
  replace hE := hZ
  clear hZ
  have hL7 : ∀ (n7 : Nat) (x2 : Int32) (mu3 : Mem) (H : Heap) (locs : List Loc) (ls : Array Slot), X9_merge_L7 n7 x2 mu3 = some mu4 → xI D (va_A (wY A cI u) s.heap.size) s.heap (wY A cI mu3) H locs → lv_has ls 5 [(0, .ref (A 0)), (1, .int x2)] → W p l e (rmOf 3 72) s m ([.ref (A 0)] : List Value).toArray below meth c H locs 0 0 (xQ D (tyL cI cZ cD) below ([.ref (A 0)] : List Value).toArray s (wY A cI u) none (wY A cI u1)) (F0 m 7 ls []) := by
    intro n7
    induction n7 with
    | zero =>
      intro x2 mu3 H locs ls hE
      exact absurd hE (by simp [X9_merge_L7])
    | succ n7 ih7 =>
      intro x2 mu3 H locs ls hE hI hl
      rw [X9_merge_L7] at hE
      refine lv_iload_n hx hb dX9_merge_7 rfl (lv_at hl 1 rfl) ?_
      refine lv_bipush (v := 16) hx hb dX9_merge_8 (by decide) ?_
      refine lv_icmp_ge (tgt := 24) hx hb dX9_merge_10 (by decide) (fun c10 => ?_) (fun c10 => ?_)
      · rw [if_pos c10] at hE
        obtain rfl := sm1 hE
        exact hX7_4 _ _ _ hI (lv_sub hl [0] rfl)
      · rw [if_neg c10] at hE
        refine lv_aload_n hx hb dX9_merge_13 rfl (lv_at hl 0 rfl) ?_
        refine lv_iload_n hx hb dX9_merge_14 rfl (lv_at hl 1 rfl) ?_
        obtain ⟨mu53, hc, hE⟩ := bd1_some hE
        refine xc_V0 (rest := []) (c_X9_mergeIn hc) mw_X9_mergeIn km_X9_170 hx hb hml hown hG hI xA_of (wG_atE (by omega) eY_0) rfl rfl ⟨Nat.le_of_ble_eq_true rfl, Nat.le_of_ble_eq_true rfl⟩ rfl hl.1 rfl (Nat.le_of_ble_eq_true rfl) dX9_merge_15 (fun H locs hI => ?_)
        refine lv_iinc (v := x2 + 1) (lv' := [(1, .int (x2 + 1)), (0, .ref (A 0))]) hx hb dX9_merge_18 hl (k := 1) rfl rfl (by decide) rfl (fun ls hl => ?_)
        refine lv_goto (tgt := 7) hx hb dX9_merge_21 (by decide) ?_
        exact ih7 _ _ _ _ _ hE hI (lv_sub hl [1, 0] rfl)
  exact hL7 _ _ _ _ _ _ hE hI (lv_sub hl [1, 0] rfl)
def X9_adopts (u : Mem) : Option (Int32 × Mem) :=
  (X9_save u : Option Mem).bind fun (mu1 : Mem) => (X9_merge mu1 : Option Mem).bind fun (mu2 : Mem) => (X9_bring mu2 1 192 1 0 64 : Option Mem).bind fun (mu3 : Mem) => bd2 (X9_fork mu3) fun (r4 : Int32) (mu5 : Mem) => bd2 (X9_finish mu5 r4) fun (r6 : Int32) (mu7 : Mem) => some (r6, mu7)
set_option maxHeartbeats 4000000 in
set_option maxRecDepth 100000 in
theorem c_X9_adopts {l : Launch} {D : va_G} {A : Nat → Nat} {cI cZ cD : ClassId} {u u1 : Mem} {r : Int32}  (hE : X9_adopts u = some (r, u1)) : Ct l yX9_adopts cX9_adopts 1 (some .int) (rmOf 4 96) D (tyL cI cZ cD) [.ref (A 0)] (wY A cI u) (some (.int r)) (wY A cI u1) := by
  refine Ct.ofW (by decide +kernel) (fun p e s m below meth c hC hI => ?_)
  obtain ⟨hx, hb, hml, hown, hr, hlk, hG⟩ := hC
  have hown : s.vm.findClass RX9 = some m.cls := hown
  have hl := lv_entry ([.ref (A 0)] : List Value) (n := 1) (Nat.le_of_ble_eq_true rfl)
  rw [lg_entry_eq]
  generalize (lg_sl ([.ref (A 0)] : List Value) ++ List.replicate (1 - (lg_sl ([.ref (A 0)] : List Value)).length) Slot.unset).toArray = ls at hl ⊢
  have hl : lv_has ls 1 [(0, .ref (A 0))] := hl
  unfold X9_adopts at hE
  refine lv_aload_n hx hb dX9_adopts_0 rfl (lv_at hl 0 rfl) ?_
  obtain ⟨mu1, hc, hE⟩ := bd1_some hE
  refine xc_V0 (rest := []) (c_X9_save hc) mw_X9_save km_X9_115 hx hb hml hown hG hI xA_of (wG_atE (by omega) eY_0) rfl rfl ⟨Nat.le_of_ble_eq_true rfl, Nat.le_of_ble_eq_true rfl⟩ rfl hl.1 rfl (Nat.le_of_ble_eq_true rfl) dX9_adopts_1 (fun H locs hI => ?_)
  refine lv_aload_n hx hb dX9_adopts_4 rfl (lv_at hl 0 rfl) ?_
  obtain ⟨mu2, hc, hE⟩ := bd1_some hE
  refine xc_V0 (rest := []) (c_X9_merge hc) mw_X9_merge km_X9_142 hx hb hml hown hG hI xA_of (wG_atE (by omega) eY_0) rfl rfl ⟨Nat.le_of_ble_eq_true rfl, Nat.le_of_ble_eq_true rfl⟩ rfl hl.1 rfl (Nat.le_of_ble_eq_true rfl) dX9_adopts_5 (fun H locs hI => ?_)
  refine lv_aload_n hx hb dX9_adopts_8 rfl (lv_at hl 0 rfl) ?_
  refine xg_get (C := RX9) (T := TX9) (M := 22) hx hb hown hG hI (by omega) eY_0 rfl inX9 0 (by decide) kf_X9_7 rfl dX9_adopts_9 ?_
  refine lv_sipush (v := 192) hx hb dX9_adopts_12 (by decide) ?_
  refine lv_aload_n hx hb dX9_adopts_15 rfl (lv_at hl 0 rfl) ?_
  refine xg_get (C := RX9) (T := TX9) (M := 22) hx hb hown hG hI (by omega) eY_0 rfl inX9 0 (by decide) kf_X9_7 rfl dX9_adopts_16 ?_
  refine lv_iconst (v := 0) hx hb dX9_adopts_19 (by decide) ?_
  refine lv_bipush (v := 64) hx hb dX9_adopts_20 (by decide) ?_
  obtain ⟨mu3, hc, hE⟩ := bd1_some hE
  refine xc_S0 (rest := []) (c_X9_bring (by omega) (by omega) hc) mw_X9_bring km_X9_52 hx hb hml hown hG hI xA_of ⟨Nat.le_of_ble_eq_true rfl, Nat.le_of_ble_eq_true rfl⟩ rfl hl.1 rfl (Nat.le_of_ble_eq_true rfl) dX9_adopts_22 (fun H locs hI => ?_)
  refine lv_aload_n hx hb dX9_adopts_25 rfl (lv_at hl 0 rfl) ?_
  refine lv_aload_n hx hb dX9_adopts_26 rfl (lv_at hl 0 rfl) ?_
  obtain ⟨r4, mu5, hc, hE⟩ := bd2_some hE
  refine xc_V1 (rest := [.ref (A 0)]) (c_X9_fork hc) mw_X9_fork km_X9_135 hx hb hml hown hG hI xA_of (wG_atE (by omega) eY_0) rfl rfl ⟨Nat.le_of_ble_eq_true rfl, Nat.le_of_ble_eq_true rfl⟩ rfl hl.1 rfl (Nat.le_of_ble_eq_true rfl) dX9_adopts_27 (fun H locs hI => ?_)
  obtain ⟨r6, mu7, hc, hE⟩ := bd2_some hE
  refine xc_V1 (rest := []) (c_X9_finish hc) mw_X9_finish km_X9_122 hx hb hml hown hG hI xA_of (wG_atE (by omega) eY_0) rfl rfl ⟨Nat.le_of_ble_eq_true rfl, Nat.le_of_ble_eq_true rfl⟩ rfl hl.1 rfl (Nat.le_of_ble_eq_true rfl) dX9_adopts_30 (fun H locs hI => ?_)
  obtain ⟨rfl, rfl⟩ := sm2 hE
  exact xr_i hx hb hr hlk hG hI dX9_adopts_33
def X9_isAsked (u : Mem) (p1 : Int32) : Option (Bool × Mem) :=
  ((if p1 = 3 then (X9_merge u : Option Mem).bind fun (mu4 : Mem) => some mu4 else some u) : Option Mem).bind fun (mu1 : Mem) => (X9_in p1 0 3 : Option Bool).bind fun (r3 : Bool) => some (r3, mu1)
set_option maxHeartbeats 4000000 in
set_option maxRecDepth 100000 in
theorem c_X9_isAsked {l : Launch} {D : va_G} {A : Nat → Nat} {cI cZ cD : ClassId} {u u1 : Mem} {p1 : Int32} {r : Bool}  (hE : X9_isAsked u p1 = some (r, u1)) : Ct l yX9_isAsked cX9_isAsked 2 (some .boolean) (rmOf 4 96) D (tyL cI cZ cD) [.ref (A 0), .int p1] (wY A cI u) (some (.int (b2i r))) (wY A cI u1) := by
  refine Ct.ofW (by decide +kernel) (fun p e s m below meth c hC hI => ?_)
  obtain ⟨hx, hb, hml, hown, hr, hlk, hG⟩ := hC
  have hown : s.vm.findClass RX9 = some m.cls := hown
  have hl := lv_entry ([.ref (A 0), .int p1] : List Value) (n := 2) (Nat.le_of_ble_eq_true rfl)
  rw [lg_entry_eq]
  generalize (lg_sl ([.ref (A 0), .int p1] : List Value) ++ List.replicate (2 - (lg_sl ([.ref (A 0), .int p1] : List Value)).length) Slot.unset).toArray = ls at hl ⊢
  have hl : lv_has ls 2 [(0, .ref (A 0)), (1, .int p1)] := hl
  unfold X9_isAsked at hE
  refine lv_iload_n hx hb dX9_isAsked_0 rfl (lv_at hl 1 rfl) ?_
  refine lv_iconst (v := 3) hx hb dX9_isAsked_1 (by decide) ?_
  obtain ⟨mu1, hZ, hE⟩ := bd1_some hE
  have hJ9_1 : ∀ (H : Heap) (locs : List Loc) (ls : Array Slot), xI D (va_A (wY A cI u) s.heap.size) s.heap (wY A cI mu1) H locs → lv_has ls 2 [(1, .int p1)] → W p l e (rmOf 4 96) s m ([.ref (A 0), .int p1] : List Value).toArray below meth c H locs 0 0 (xQ D (tyL cI cZ cD) below ([.ref (A 0), .int p1] : List Value).toArray s (wY A cI u) (some (.int (b2i r))) (wY A cI u1)) (F0 m 9 ls []) := by
    intro H locs ls hI hl
    clear hZ
    refine lv_iload_n hx hb dX9_isAsked_9 rfl (lv_at hl 0 rfl) ?_
    refine lv_iconst (v := 0) hx hb dX9_isAsked_10 (by decide) ?_
    refine lv_iconst (v := 3) hx hb dX9_isAsked_11 (by decide) ?_
    obtain ⟨r3, hc, hE⟩ := bd1_some hE
    refine xc_S1 (rest := []) (c_X9_in hc) mw_X9_in km_X9_68 hx hb hml hown hG hI xA_of ⟨Nat.le_of_ble_eq_true rfl, Nat.le_of_ble_eq_true rfl⟩ rfl hl.1 rfl (Nat.le_of_ble_eq_true rfl) dX9_isAsked_12 (fun H locs hI => ?_)
    obtain ⟨rfl, rfl⟩ := sm2 hE
    exact xr_z rfl hx hb hr hlk hG hI dX9_isAsked_15
  replace hE := hZ
  clear hZ
  refine lv_icmp_ne (tgt := 9) hx hb dX9_isAsked_2 (by decide) (fun c2 => ?_) (fun c2 => ?_)
  · rw [if_neg c2] at hE
    obtain rfl := sm1 hE
    exact hJ9_1 _ _ _ hI (lv_sub hl [1] rfl)
  · rw [if_pos c2] at hE
    refine lv_aload_n hx hb dX9_isAsked_5 rfl (lv_at hl 0 rfl) ?_
    obtain ⟨mu4, hc, hE⟩ := bd1_some hE
    refine xc_V0 (rest := []) (c_X9_merge hc) mw_X9_merge km_X9_142 hx hb hml hown hG hI xA_of (wG_atE (by omega) eY_0) rfl rfl ⟨Nat.le_of_ble_eq_true rfl, Nat.le_of_ble_eq_true rfl⟩ rfl hl.1 rfl (Nat.le_of_ble_eq_true rfl) dX9_isAsked_6 (fun H locs hI => ?_)
    obtain rfl := sm1 hE
    exact hJ9_1 _ _ _ hI (lv_sub hl [1] rfl)
def X9_has (u : Mem) (p1 : Int32) (p2 : Int32) : Option (Int32 × Mem) :=
  bd2 (X9_isAsked u p1) fun (r1 : Bool) (mu2 : Mem) => (if (b2i r1) = 0 then bd2 (X9_refuse mu2 (-2)) fun (r3 : Int32) (mu4 : Mem) => some (r3, mu4) else (X9_in p2 0 15 : Option Bool).bind fun (r5 : Bool) => (if (b2i r5) = 0 then bd2 (X9_refuse mu2 (-2)) fun (r7 : Int32) (mu8 : Mem) => some (r7, mu8) else (X9_isIn mu2 p1 p2 : Option Bool).bind fun (r6 : Bool) => (if (b2i r6) = 0 then some (0, mu2) else some (1, mu2))))
set_option maxHeartbeats 4000000 in
set_option maxRecDepth 100000 in
theorem c_X9_has {l : Launch} {D : va_G} {A : Nat → Nat} {cI cZ cD : ClassId} {u u1 : Mem} {p1 : Int32} {p2 : Int32} {r : Int32}  (hE : X9_has u p1 p2 = some (r, u1)) : Ct l yX9_has cX9_has 3 (some .int) (rmOf 5 117) D (tyL cI cZ cD) [.ref (A 0), .int p1, .int p2] (wY A cI u) (some (.int r)) (wY A cI u1) := by
  refine Ct.ofW (by decide +kernel) (fun p e s m below meth c hC hI => ?_)
  obtain ⟨hx, hb, hml, hown, hr, hlk, hG⟩ := hC
  have hown : s.vm.findClass RX9 = some m.cls := hown
  have hl := lv_entry ([.ref (A 0), .int p1, .int p2] : List Value) (n := 3) (Nat.le_of_ble_eq_true rfl)
  rw [lg_entry_eq]
  generalize (lg_sl ([.ref (A 0), .int p1, .int p2] : List Value) ++ List.replicate (3 - (lg_sl ([.ref (A 0), .int p1, .int p2] : List Value)).length) Slot.unset).toArray = ls at hl ⊢
  have hl : lv_has ls 3 [(0, .ref (A 0)), (1, .int p1), (2, .int p2)] := hl
  unfold X9_has at hE
  refine lv_aload_n hx hb dX9_has_0 rfl (lv_at hl 0 rfl) ?_
  refine lv_iload_n hx hb dX9_has_1 rfl (lv_at hl 1 rfl) ?_
  obtain ⟨r1, mu2, hc, hE⟩ := bd2_some hE
  refine xc_V1 (rest := []) (c_X9_isAsked hc) mw_X9_isAsked km_X9_183 hx hb hml hown hG hI xA_of (wG_atE (by omega) eY_0) rfl rfl ⟨Nat.le_of_ble_eq_true rfl, Nat.le_of_ble_eq_true rfl⟩ rfl hl.1 rfl (Nat.le_of_ble_eq_true rfl) dX9_has_2 (fun H locs hI => ?_)
  refine lv_if_eq (tgt := 18) hx hb dX9_has_5 (by decide) (fun c5 => ?_) (fun c5 => ?_)
  · rw [if_pos c5] at hE
    refine lv_aload_n hx hb dX9_has_18 rfl (lv_at hl 0 rfl) ?_
    refine lv_bipush (v := (-2)) hx hb dX9_has_19 (by decide) ?_
    obtain ⟨r3, mu4, hc, hE⟩ := bd2_some hE
    refine xc_V1 (rest := []) (c_X9_refuse hc) mw_X9_refuse km_X9_60 hx hb hml hown hG hI xA_of (wG_atE (by omega) eY_0) rfl rfl ⟨Nat.le_of_ble_eq_true rfl, Nat.le_of_ble_eq_true rfl⟩ rfl hl.1 rfl (Nat.le_of_ble_eq_true rfl) dX9_has_21 (fun H locs hI => ?_)
    obtain ⟨rfl, rfl⟩ := sm2 hE
    exact xr_i hx hb hr hlk hG hI dX9_has_24
  · rw [if_neg c5] at hE
    refine lv_iload_n hx hb dX9_has_8 rfl (lv_at hl 2 rfl) ?_
    refine lv_iconst (v := 0) hx hb dX9_has_9 (by decide) ?_
    refine lv_bipush (v := 15) hx hb dX9_has_10 (by decide) ?_
    obtain ⟨r5, hc, hE⟩ := bd1_some hE
    refine xc_S1 (rest := []) (c_X9_in hc) mw_X9_in km_X9_68 hx hb hml hown hG hI xA_of ⟨Nat.le_of_ble_eq_true rfl, Nat.le_of_ble_eq_true rfl⟩ rfl hl.1 rfl (Nat.le_of_ble_eq_true rfl) dX9_has_12 (fun H locs hI => ?_)
    refine lv_if_ne (tgt := 25) hx hb dX9_has_15 (by decide) (fun c15 => ?_) (fun c15 => ?_)
    · rw [if_neg c15] at hE
      refine lv_aload_n hx hb dX9_has_25 rfl (lv_at hl 0 rfl) ?_
      refine lv_iload_n hx hb dX9_has_26 rfl (lv_at hl 1 rfl) ?_
      refine lv_iload_n hx hb dX9_has_27 rfl (lv_at hl 2 rfl) ?_
      obtain ⟨r6, hc, hE⟩ := bd1_some hE
      refine xc_V1 (rest := []) (c_X9_isIn hc) mw_X9_isIn km_X9_72 hx hb hml hown hG hI xA_of (wG_atE (by omega) eY_0) rfl rfl ⟨Nat.le_of_ble_eq_true rfl, Nat.le_of_ble_eq_true rfl⟩ rfl hl.1 rfl (Nat.le_of_ble_eq_true rfl) dX9_has_28 (fun H locs hI => ?_)
      refine lv_if_eq (tgt := 38) hx hb dX9_has_31 (by decide) (fun c31 => ?_) (fun c31 => ?_)
      · rw [if_pos c31] at hE
        refine lv_iconst (v := 0) hx hb dX9_has_38 (by decide) ?_
        obtain ⟨rfl, rfl⟩ := sm2 hE
        exact xr_i hx hb hr hlk hG hI dX9_has_39
      · rw [if_neg c31] at hE
        refine lv_iconst (v := 1) hx hb dX9_has_34 (by decide) ?_
        refine lv_goto (tgt := 39) hx hb dX9_has_35 (by decide) ?_
        obtain ⟨rfl, rfl⟩ := sm2 hE
        exact xr_i hx hb hr hlk hG hI dX9_has_39
    · rw [if_pos c15] at hE
      refine lv_aload_n hx hb dX9_has_18 rfl (lv_at hl 0 rfl) ?_
      refine lv_bipush (v := (-2)) hx hb dX9_has_19 (by decide) ?_
      obtain ⟨r7, mu8, hc, hE⟩ := bd2_some hE
      refine xc_V1 (rest := []) (c_X9_refuse hc) mw_X9_refuse km_X9_60 hx hb hml hown hG hI xA_of (wG_atE (by omega) eY_0) rfl rfl ⟨Nat.le_of_ble_eq_true rfl, Nat.le_of_ble_eq_true rfl⟩ rfl hl.1 rfl (Nat.le_of_ble_eq_true rfl) dX9_has_21 (fun H locs hI => ?_)
      obtain ⟨rfl, rfl⟩ := sm2 hE
      exact xr_i hx hb hr hlk hG hI dX9_has_24
def X9_ofSection (u : Mem) (p1 : Int32) (p2 : Int32) (p3 : Int32) : Option (Int32) :=
  (if p3 = 0 then (X9_parentOf u p1 p2 : Option Int32).bind fun (r1 : Int32) => some r1 else (if p3 = 1 then (X9_placeOf u p1 p2 : Option Int32).bind fun (r2 : Int32) => some r2 else (if p3 = 2 then (X9_nameOf u p1 p2 : Option Int32).bind fun (r3 : Int32) => some r3 else (if p3 = 3 then (X9_textOf u p1 p2 : Option Int32).bind fun (r4 : Int32) => some r4 else (if p3 = 4 then (X9_childrenOf u p1 p2 : Option Int32).bind fun (r5 : Int32) => some r5 else (X9_belowOf u p1 p2 : Option Int32).bind fun (r6 : Int32) => (X9_ones r6 : Option Int32).bind fun (r7 : Int32) => some r7)))))
set_option maxHeartbeats 4000000 in
set_option maxRecDepth 100000 in
theorem c_X9_ofSection {l : Launch} {D : va_G} {A : Nat → Nat} {cI cZ cD : ClassId} {u : Mem} {p1 : Int32} {p2 : Int32} {p3 : Int32} {r : Int32}  (hE : X9_ofSection u p1 p2 p3 = some (r)) : Ct l yX9_ofSection cX9_ofSection 4 (some .int) (rmOf 2 47) D (tyL cI cZ cD) [.ref (A 0), .int p1, .int p2, .int p3] (wY A cI u) (some (.int r)) (wY A cI u) := by
  refine Ct.ofW (by decide +kernel) (fun p e s m below meth c hC hI => ?_)
  obtain ⟨hx, hb, hml, hown, hr, hlk, hG⟩ := hC
  have hown : s.vm.findClass RX9 = some m.cls := hown
  have hl := lv_entry ([.ref (A 0), .int p1, .int p2, .int p3] : List Value) (n := 4) (Nat.le_of_ble_eq_true rfl)
  rw [lg_entry_eq]
  generalize (lg_sl ([.ref (A 0), .int p1, .int p2, .int p3] : List Value) ++ List.replicate (4 - (lg_sl ([.ref (A 0), .int p1, .int p2, .int p3] : List Value)).length) Slot.unset).toArray = ls at hl ⊢
  have hl : lv_has ls 4 [(0, .ref (A 0)), (1, .int p1), (2, .int p2), (3, .int p3)] := hl
  unfold X9_ofSection at hE
  refine lv_iload_n hx hb dX9_ofSection_0 rfl (lv_at hl 3 rfl) ?_
  by_cases k1_0 : p3 = 0
  · rw [if_pos k1_0] at hE
    refine lv_tableIn (tgt := 36) hx hb dX9_ofSection_1 (by rw [k1_0]; decide) (by rw [k1_0]; decide) (by rw [k1_0]; rfl) (by decide) ?_
    refine lv_aload_n hx hb dX9_ofSection_36 rfl (lv_at hl 0 rfl) ?_
    refine lv_iload_n hx hb dX9_ofSection_37 rfl (lv_at hl 1 rfl) ?_
    refine lv_iload_n hx hb dX9_ofSection_38 rfl (lv_at hl 2 rfl) ?_
    obtain ⟨r1, hc, hE⟩ := bd1_some hE
    refine xc_V1 (rest := []) (c_X9_parentOf hc) mw_X9_parentOf km_X9_76 hx hb hml hown hG hI xA_of (wG_atE (by omega) eY_0) rfl rfl ⟨Nat.le_of_ble_eq_true rfl, Nat.le_of_ble_eq_true rfl⟩ rfl hl.1 rfl (Nat.le_of_ble_eq_true rfl) dX9_ofSection_39 (fun H locs hI => ?_)
    obtain rfl := sm1 hE
    exact xr_i hx hb hr hlk hG hI dX9_ofSection_42
  · rw [if_neg k1_0] at hE
    by_cases k1_1 : p3 = 1
    · rw [if_pos k1_1] at hE
      refine lv_tableIn (tgt := 43) hx hb dX9_ofSection_1 (by rw [k1_1]; decide) (by rw [k1_1]; decide) (by rw [k1_1]; rfl) (by decide) ?_
      refine lv_aload_n hx hb dX9_ofSection_43 rfl (lv_at hl 0 rfl) ?_
      refine lv_iload_n hx hb dX9_ofSection_44 rfl (lv_at hl 1 rfl) ?_
      refine lv_iload_n hx hb dX9_ofSection_45 rfl (lv_at hl 2 rfl) ?_
      obtain ⟨r2, hc, hE⟩ := bd1_some hE
      refine xc_V1 (rest := []) (c_X9_placeOf hc) mw_X9_placeOf km_X9_80 hx hb hml hown hG hI xA_of (wG_atE (by omega) eY_0) rfl rfl ⟨Nat.le_of_ble_eq_true rfl, Nat.le_of_ble_eq_true rfl⟩ rfl hl.1 rfl (Nat.le_of_ble_eq_true rfl) dX9_ofSection_46 (fun H locs hI => ?_)
      obtain rfl := sm1 hE
      exact xr_i hx hb hr hlk hG hI dX9_ofSection_49
    · rw [if_neg k1_1] at hE
      by_cases k1_2 : p3 = 2
      · rw [if_pos k1_2] at hE
        refine lv_tableIn (tgt := 50) hx hb dX9_ofSection_1 (by rw [k1_2]; decide) (by rw [k1_2]; decide) (by rw [k1_2]; rfl) (by decide) ?_
        refine lv_aload_n hx hb dX9_ofSection_50 rfl (lv_at hl 0 rfl) ?_
        refine lv_iload_n hx hb dX9_ofSection_51 rfl (lv_at hl 1 rfl) ?_
        refine lv_iload_n hx hb dX9_ofSection_52 rfl (lv_at hl 2 rfl) ?_
        obtain ⟨r3, hc, hE⟩ := bd1_some hE
        refine xc_V1 (rest := []) (c_X9_nameOf hc) mw_X9_nameOf km_X9_148 hx hb hml hown hG hI xA_of (wG_atE (by omega) eY_0) rfl rfl ⟨Nat.le_of_ble_eq_true rfl, Nat.le_of_ble_eq_true rfl⟩ rfl hl.1 rfl (Nat.le_of_ble_eq_true rfl) dX9_ofSection_53 (fun H locs hI => ?_)
        obtain rfl := sm1 hE
        exact xr_i hx hb hr hlk hG hI dX9_ofSection_56
      · rw [if_neg k1_2] at hE
        by_cases k1_3 : p3 = 3
        · rw [if_pos k1_3] at hE
          refine lv_tableIn (tgt := 57) hx hb dX9_ofSection_1 (by rw [k1_3]; decide) (by rw [k1_3]; decide) (by rw [k1_3]; rfl) (by decide) ?_
          refine lv_aload_n hx hb dX9_ofSection_57 rfl (lv_at hl 0 rfl) ?_
          refine lv_iload_n hx hb dX9_ofSection_58 rfl (lv_at hl 1 rfl) ?_
          refine lv_iload_n hx hb dX9_ofSection_59 rfl (lv_at hl 2 rfl) ?_
          obtain ⟨r4, hc, hE⟩ := bd1_some hE
          refine xc_V1 (rest := []) (c_X9_textOf hc) mw_X9_textOf km_X9_151 hx hb hml hown hG hI xA_of (wG_atE (by omega) eY_0) rfl rfl ⟨Nat.le_of_ble_eq_true rfl, Nat.le_of_ble_eq_true rfl⟩ rfl hl.1 rfl (Nat.le_of_ble_eq_true rfl) dX9_ofSection_60 (fun H locs hI => ?_)
          obtain rfl := sm1 hE
          exact xr_i hx hb hr hlk hG hI dX9_ofSection_63
        · rw [if_neg k1_3] at hE
          by_cases k1_4 : p3 = 4
          · rw [if_pos k1_4] at hE
            refine lv_tableIn (tgt := 64) hx hb dX9_ofSection_1 (by rw [k1_4]; decide) (by rw [k1_4]; decide) (by rw [k1_4]; rfl) (by decide) ?_
            refine lv_aload_n hx hb dX9_ofSection_64 rfl (lv_at hl 0 rfl) ?_
            refine lv_iload_n hx hb dX9_ofSection_65 rfl (lv_at hl 1 rfl) ?_
            refine lv_iload_n hx hb dX9_ofSection_66 rfl (lv_at hl 2 rfl) ?_
            obtain ⟨r5, hc, hE⟩ := bd1_some hE
            refine xc_V1 (rest := []) (c_X9_childrenOf hc) mw_X9_childrenOf km_X9_93 hx hb hml hown hG hI xA_of (wG_atE (by omega) eY_0) rfl rfl ⟨Nat.le_of_ble_eq_true rfl, Nat.le_of_ble_eq_true rfl⟩ rfl hl.1 rfl (Nat.le_of_ble_eq_true rfl) dX9_ofSection_67 (fun H locs hI => ?_)
            obtain rfl := sm1 hE
            exact xr_i hx hb hr hlk hG hI dX9_ofSection_70
          · rw [if_neg k1_4] at hE
            refine xs_dflt (tgt := 71) hx hb dX9_ofSection_1 (fun j hj => match j, hj with | 0, _ => Or.inr (lv_neT k1_0 rfl) | 1, _ => Or.inr (lv_neT k1_1 rfl) | 2, _ => Or.inr (lv_neT k1_2 rfl) | 3, _ => Or.inr (lv_neT k1_3 rfl) | 4, _ => Or.inr (lv_neT k1_4 rfl) | q + 5, hq => absurd hq (Nat.not_lt.mpr (Nat.le_add_left _ _))) (by decide) (by decide) ?_
            refine lv_aload_n hx hb dX9_ofSection_71 rfl (lv_at hl 0 rfl) ?_
            refine lv_iload_n hx hb dX9_ofSection_72 rfl (lv_at hl 1 rfl) ?_
            refine lv_iload_n hx hb dX9_ofSection_73 rfl (lv_at hl 2 rfl) ?_
            obtain ⟨r6, hc, hE⟩ := bd1_some hE
            refine xc_V1 (rest := []) (c_X9_belowOf hc) mw_X9_belowOf km_X9_102 hx hb hml hown hG hI xA_of (wG_atE (by omega) eY_0) rfl rfl ⟨Nat.le_of_ble_eq_true rfl, Nat.le_of_ble_eq_true rfl⟩ rfl hl.1 rfl (Nat.le_of_ble_eq_true rfl) dX9_ofSection_74 (fun H locs hI => ?_)
            obtain ⟨r7, hc, hE⟩ := bd1_some hE
            refine xc_S1 (rest := []) (c_X9_ones hc) mw_X9_ones km_X9_109 hx hb hml hown hG hI xA_of ⟨Nat.le_of_ble_eq_true rfl, Nat.le_of_ble_eq_true rfl⟩ rfl hl.1 rfl (Nat.le_of_ble_eq_true rfl) dX9_ofSection_77 (fun H locs hI => ?_)
            obtain rfl := sm1 hE
            exact xr_i hx hb hr hlk hG hI dX9_ofSection_80
def X9_of (u : Mem) (p1 : Int32) (p2 : Int32) (p3 : Int32) : Option (Int32 × Mem) :=
  bd2 (X9_isAsked u p1) fun (r1 : Bool) (mu2 : Mem) => (if (b2i r1) = 0 then bd2 (X9_refuse mu2 (-2)) fun (r3 : Int32) (mu4 : Mem) => some (r3, mu4) else (X9_isThere mu2 p1 p2 : Option Bool).bind fun (r5 : Bool) => (if (b2i r5) = 0 then bd2 (X9_refuse mu2 (-2)) fun (r6 : Int32) (mu7 : Mem) => some (r6, mu7) else (X9_in p3 0 5 : Option Bool).bind fun (r8 : Bool) => (if (b2i r8) = 0 then bd2 (X9_refuse mu2 (-2)) fun (r9 : Int32) (mu10 : Mem) => some (r9, mu10) else (X9_ofSection mu2 p1 p2 p3 : Option Int32).bind fun (r11 : Int32) => some (r11, mu2))))
set_option maxHeartbeats 4000000 in
set_option maxRecDepth 100000 in
theorem c_X9_of {l : Launch} {D : va_G} {A : Nat → Nat} {cI cZ cD : ClassId} {u u1 : Mem} {p1 : Int32} {p2 : Int32} {p3 : Int32} {r : Int32}  (hE : X9_of u p1 p2 p3 = some (r, u1)) : Ct l yX9_of cX9_of 4 (some .int) (rmOf 5 117) D (tyL cI cZ cD) [.ref (A 0), .int p1, .int p2, .int p3] (wY A cI u) (some (.int r)) (wY A cI u1) := by
  refine Ct.ofW (by decide +kernel) (fun p e s m below meth c hC hI => ?_)
  obtain ⟨hx, hb, hml, hown, hr, hlk, hG⟩ := hC
  have hown : s.vm.findClass RX9 = some m.cls := hown
  have hl := lv_entry ([.ref (A 0), .int p1, .int p2, .int p3] : List Value) (n := 4) (Nat.le_of_ble_eq_true rfl)
  rw [lg_entry_eq]
  generalize (lg_sl ([.ref (A 0), .int p1, .int p2, .int p3] : List Value) ++ List.replicate (4 - (lg_sl ([.ref (A 0), .int p1, .int p2, .int p3] : List Value)).length) Slot.unset).toArray = ls at hl ⊢
  have hl : lv_has ls 4 [(0, .ref (A 0)), (1, .int p1), (2, .int p2), (3, .int p3)] := hl
  unfold X9_of at hE
  refine lv_aload_n hx hb dX9_of_0 rfl (lv_at hl 0 rfl) ?_
  refine lv_iload_n hx hb dX9_of_1 rfl (lv_at hl 1 rfl) ?_
  obtain ⟨r1, mu2, hc, hE⟩ := bd2_some hE
  refine xc_V1 (rest := []) (c_X9_isAsked hc) mw_X9_isAsked km_X9_183 hx hb hml hown hG hI xA_of (wG_atE (by omega) eY_0) rfl rfl ⟨Nat.le_of_ble_eq_true rfl, Nat.le_of_ble_eq_true rfl⟩ rfl hl.1 rfl (Nat.le_of_ble_eq_true rfl) dX9_of_2 (fun H locs hI => ?_)
  refine lv_if_eq (tgt := 36) hx hb dX9_of_5 (by decide) (fun c5 => ?_) (fun c5 => ?_)
  · rw [if_pos c5] at hE
    refine lv_aload_n hx hb dX9_of_36 rfl (lv_at hl 0 rfl) ?_
    refine lv_bipush (v := (-2)) hx hb dX9_of_37 (by decide) ?_
    obtain ⟨r3, mu4, hc, hE⟩ := bd2_some hE
    refine xc_V1 (rest := []) (c_X9_refuse hc) mw_X9_refuse km_X9_60 hx hb hml hown hG hI xA_of (wG_atE (by omega) eY_0) rfl rfl ⟨Nat.le_of_ble_eq_true rfl, Nat.le_of_ble_eq_true rfl⟩ rfl hl.1 rfl (Nat.le_of_ble_eq_true rfl) dX9_of_39 (fun H locs hI => ?_)
    obtain ⟨rfl, rfl⟩ := sm2 hE
    exact xr_i hx hb hr hlk hG hI dX9_of_42
  · rw [if_neg c5] at hE
    refine lv_aload_n hx hb dX9_of_8 rfl (lv_at hl 0 rfl) ?_
    refine lv_iload_n hx hb dX9_of_9 rfl (lv_at hl 1 rfl) ?_
    refine lv_iload_n hx hb dX9_of_10 rfl (lv_at hl 2 rfl) ?_
    obtain ⟨r5, hc, hE⟩ := bd1_some hE
    refine xc_V1 (rest := []) (c_X9_isThere hc) mw_X9_isThere km_X9_90 hx hb hml hown hG hI xA_of (wG_atE (by omega) eY_0) rfl rfl ⟨Nat.le_of_ble_eq_true rfl, Nat.le_of_ble_eq_true rfl⟩ rfl hl.1 rfl (Nat.le_of_ble_eq_true rfl) dX9_of_11 (fun H locs hI => ?_)
    refine lv_if_eq (tgt := 36) hx hb dX9_of_14 (by decide) (fun c14 => ?_) (fun c14 => ?_)
    · rw [if_pos c14] at hE
      refine lv_aload_n hx hb dX9_of_36 rfl (lv_at hl 0 rfl) ?_
      refine lv_bipush (v := (-2)) hx hb dX9_of_37 (by decide) ?_
      obtain ⟨r6, mu7, hc, hE⟩ := bd2_some hE
      refine xc_V1 (rest := []) (c_X9_refuse hc) mw_X9_refuse km_X9_60 hx hb hml hown hG hI xA_of (wG_atE (by omega) eY_0) rfl rfl ⟨Nat.le_of_ble_eq_true rfl, Nat.le_of_ble_eq_true rfl⟩ rfl hl.1 rfl (Nat.le_of_ble_eq_true rfl) dX9_of_39 (fun H locs hI => ?_)
      obtain ⟨rfl, rfl⟩ := sm2 hE
      exact xr_i hx hb hr hlk hG hI dX9_of_42
    · rw [if_neg c14] at hE
      refine lv_iload_n hx hb dX9_of_17 rfl (lv_at hl 3 rfl) ?_
      refine lv_iconst (v := 0) hx hb dX9_of_18 (by decide) ?_
      refine lv_iconst (v := 5) hx hb dX9_of_19 (by decide) ?_
      obtain ⟨r8, hc, hE⟩ := bd1_some hE
      refine xc_S1 (rest := []) (c_X9_in hc) mw_X9_in km_X9_68 hx hb hml hown hG hI xA_of ⟨Nat.le_of_ble_eq_true rfl, Nat.le_of_ble_eq_true rfl⟩ rfl hl.1 rfl (Nat.le_of_ble_eq_true rfl) dX9_of_20 (fun H locs hI => ?_)
      refine lv_if_eq (tgt := 36) hx hb dX9_of_23 (by decide) (fun c23 => ?_) (fun c23 => ?_)
      · rw [if_pos c23] at hE
        refine lv_aload_n hx hb dX9_of_36 rfl (lv_at hl 0 rfl) ?_
        refine lv_bipush (v := (-2)) hx hb dX9_of_37 (by decide) ?_
        obtain ⟨r9, mu10, hc, hE⟩ := bd2_some hE
        refine xc_V1 (rest := []) (c_X9_refuse hc) mw_X9_refuse km_X9_60 hx hb hml hown hG hI xA_of (wG_atE (by omega) eY_0) rfl rfl ⟨Nat.le_of_ble_eq_true rfl, Nat.le_of_ble_eq_true rfl⟩ rfl hl.1 rfl (Nat.le_of_ble_eq_true rfl) dX9_of_39 (fun H locs hI => ?_)
        obtain ⟨rfl, rfl⟩ := sm2 hE
        exact xr_i hx hb hr hlk hG hI dX9_of_42
      · rw [if_neg c23] at hE
        refine lv_aload_n hx hb dX9_of_26 rfl (lv_at hl 0 rfl) ?_
        refine lv_iload_n hx hb dX9_of_27 rfl (lv_at hl 1 rfl) ?_
        refine lv_iload_n hx hb dX9_of_28 rfl (lv_at hl 2 rfl) ?_
        refine lv_iload_n hx hb dX9_of_29 rfl (lv_at hl 3 rfl) ?_
        obtain ⟨r11, hc, hE⟩ := bd1_some hE
        refine xc_V1 (rest := []) (c_X9_ofSection hc) mw_X9_ofSection km_X9_186 hx hb hml hown hG hI xA_of (wG_atE (by omega) eY_0) rfl rfl ⟨Nat.le_of_ble_eq_true rfl, Nat.le_of_ble_eq_true rfl⟩ rfl hl.1 rfl (Nat.le_of_ble_eq_true rfl) dX9_of_30 (fun H locs hI => ?_)
        refine lv_goto (tgt := 42) hx hb dX9_of_33 (by decide) ?_
        obtain ⟨rfl, rfl⟩ := sm2 hE
        exact xr_i hx hb hr hlk hG hI dX9_of_42
def X9_walkAll_L56 (p1 : Int32) (v8 : Int32) (x12 : Int32) : Nat → Int32 → Int32 → Mem → Option (Int32 × Mem)
  | 0, _, _, _ => none
  | n56 + 1, x17, x18, mu19 =>
    (if 16 ≤ x18 then some (x17, mu19) else (X9_parentOf mu19 p1 x18 : Option Int32).bind fun (r23 : Int32) => (if r23 = v8 then (X9_placeOf mu19 p1 x18 : Option Int32).bind fun (r24 : Int32) => (if r24 = x12 then (stI 16 mu19 12 x17 x18).bind fun mu25 => X9_walkAll_L56 p1 v8 x12 n56 (x17 + 1) (x18 + 1) mu25 else X9_walkAll_L56 p1 v8 x12 n56 x17 (x18 + 1) mu19) else X9_walkAll_L56 p1 v8 x12 n56 x17 (x18 + 1) mu19))
def X9_walkAll_L48 (p1 : Int32) (v8 : Int32) : Nat → Int32 → Int32 → Mem → Option (Int32 × Mem)
  | 0, _, _, _ => none
  | n48 + 1, x11, x12, mu13 =>
    (if x12 < 0 then some (x11, mu13) else bd2 (X9_walkAll_L56 p1 v8 x12 fu x11 1 mu13) fun (x20 : Int32) (mu21 : Mem) => X9_walkAll_L48 p1 v8 n48 x20 (x12 + (-1)) mu21)
def X9_walkAll_L11 (p1 : Int32) : Nat → Int32 → Int32 → Mem → Option (Int32 × Mem)
  | 0, _, _, _ => none
  | n11 + 1, x2, x3, mu4 =>
    (if x3 ≤ 0 then some (x2, mu4) else (rd 16 (mu4 12) (x3 + (-1))).bind fun v8 => (stI 16 mu4 11 x2 v8).bind fun mu9 => (X9_childrenOf mu9 p1 v8 : Option Int32).bind fun (r10 : Int32) => bd2 (X9_walkAll_L48 p1 v8 fu (x3 + (-1)) (r10 - 1) mu9) fun (x14 : Int32) (mu15 : Mem) => X9_walkAll_L11 p1 n11 (x2 + 1) x14 mu15)
def X9_walkAll (u : Mem) (p1 : Int32) : Option (Int32 × Mem) :=
  (stI 16 u 12 0 0).bind fun mu1 => bd2 (X9_walkAll_L11 p1 fu 0 1 mu1) fun (x5 : Int32) (mu6 : Mem) => some (x5, mu6)
set_option maxHeartbeats 4000000 in
set_option maxRecDepth 100000 in
theorem c_X9_walkAll {l : Launch} {D : va_G} {A : Nat → Nat} {cI cZ cD : ClassId} {u u1 : Mem} {p1 : Int32} {r : Int32}  (hE : X9_walkAll u p1 = some (r, u1)) : Ct l yX9_walkAll cX9_walkAll 7 (some .int) (rmOf 2 46) D (tyL cI cZ cD) [.ref (A 0), .int p1] (wY A cI u) (some (.int r)) (wY A cI u1) := by
  refine Ct.ofW (by decide +kernel) (fun p e s m below meth c hC hI => ?_)
  obtain ⟨hx, hb, hml, hown, hr, hlk, hG⟩ := hC
  have hown : s.vm.findClass RX9 = some m.cls := hown
  have hl := lv_entry ([.ref (A 0), .int p1] : List Value) (n := 7) (Nat.le_of_ble_eq_true rfl)
  rw [lg_entry_eq]
  generalize (lg_sl ([.ref (A 0), .int p1] : List Value) ++ List.replicate (7 - (lg_sl ([.ref (A 0), .int p1] : List Value)).length) Slot.unset).toArray = ls at hl ⊢
  have hl : lv_has ls 7 [(0, .ref (A 0)), (1, .int p1)] := hl
  unfold X9_walkAll at hE
  refine lv_iconst (v := 0) hx hb dX9_walkAll_0 (by decide) ?_
  refine lv_istore_n (lv' := [(2, .int 0), (0, .ref (A 0)), (1, .int p1)]) hx hb dX9_walkAll_1 rfl hl (by decide) rfl (fun ls hl => ?_)
  refine lv_iconst (v := 1) hx hb dX9_walkAll_2 (by decide) ?_
  refine lv_istore_n (lv' := [(3, .int 1), (2, .int 0), (0, .ref (A 0)), (1, .int p1)]) hx hb dX9_walkAll_3 rfl hl (by decide) rfl (fun ls hl => ?_)
  refine lv_aload_n hx hb dX9_walkAll_4 rfl (lv_at hl 2 rfl) ?_
  refine xg_get (C := RX9) (T := TX9) (M := 22) hx hb hown hG hI (by omega) eY_0 rfl inX9 15 (by decide) kf_X9_43 rfl dX9_walkAll_5 ?_
  refine lv_iconst (v := 0) hx hb dX9_walkAll_8 (by decide) ?_
  refine lv_iconst (v := 0) hx hb dX9_walkAll_9 (by decide) ?_
  obtain ⟨mu1, hv, hE⟩ := bd1_some hE
  refine xg_iast 0 hx hb hG hI (by omega) eY_12 rfl hv dX9_walkAll_10 (fun H locs hI => ?_)
  obtain ⟨x5, mu6, hZ, hE⟩ := bd2_some hE
  have hX11_6 : ∀ (H : Heap) (locs : List Loc) (ls : Array Slot), xI D (va_A (wY A cI u) s.heap.size) s.heap (wY A cI mu6) H locs → lv_has ls 7 [(2, .int x5)] → W p l e (rmOf 2 46) s m ([.ref (A 0), .int p1] : List Value).toArray below meth c H locs 0 0 (xQ D (tyL cI cZ cD) below ([.ref (A 0), .int p1] : List Value).toArray s (wY A cI u) (some (.int r)) (wY A cI u1)) (F0 m 113 ls []) := by
    intro H locs ls hI hl
    clear hZ
    refine lv_iload_n hx hb dX9_walkAll_113 rfl (lv_at hl 0 rfl) ?_
    obtain ⟨rfl, rfl⟩ := sm2 hE
    exact xr_i hx hb hr hlk hG hI dX9_walkAll_114
  replace hE := hZ
  clear hZ
  have hL11 : ∀ (n11 : Nat) (x2 : Int32) (x3 : Int32) (mu4 : Mem) (H : Heap) (locs : List Loc) (ls : Array Slot), X9_walkAll_L11 p1 n11 x2 x3 mu4 = some (x5, mu6) → xI D (va_A (wY A cI u) s.heap.size) s.heap (wY A cI mu4) H locs → lv_has ls 7 [(0, .ref (A 0)), (1, .int p1), (2, .int x2), (3, .int x3)] → W p l e (rmOf 2 46) s m ([.ref (A 0), .int p1] : List Value).toArray below meth c H locs 0 0 (xQ D (tyL cI cZ cD) below ([.ref (A 0), .int p1] : List Value).toArray s (wY A cI u) (some (.int r)) (wY A cI u1)) (F0 m 11 ls []) := by
    intro n11
    induction n11 with
    | zero =>
      intro x2 x3 mu4 H locs ls hE
      exact absurd hE (by simp [X9_walkAll_L11])
    | succ n11 ih11 =>
      intro x2 x3 mu4 H locs ls hE hI hl
      rw [X9_walkAll_L11] at hE
      refine lv_iload_n hx hb dX9_walkAll_11 rfl (lv_at hl 3 rfl) ?_
      refine lv_if_le (tgt := 113) hx hb dX9_walkAll_12 (by decide) (fun c12 => ?_) (fun c12 => ?_)
      · rw [if_pos c12] at hE
        obtain ⟨rfl, rfl⟩ := sm2 hE
        exact hX11_6 _ _ _ hI (lv_sub hl [2] rfl)
      · rw [if_neg c12] at hE
        refine lv_iinc (v := x3 + (-1)) (lv' := [(3, .int (x3 + (-1))), (0, .ref (A 0)), (1, .int p1), (2, .int x2)]) hx hb dX9_walkAll_15 hl (k := 3) rfl (congrArg (x3 + ·) (by decide)) (by decide) rfl (fun ls hl => ?_)
        refine lv_aload_n hx hb dX9_walkAll_18 rfl (lv_at hl 1 rfl) ?_
        refine xg_get (C := RX9) (T := TX9) (M := 22) hx hb hown hG hI (by omega) eY_0 rfl inX9 15 (by decide) kf_X9_43 rfl dX9_walkAll_19 ?_
        refine lv_iload_n hx hb dX9_walkAll_22 rfl (lv_at hl 0 rfl) ?_
        obtain ⟨v8, hv, hE⟩ := bd1_some hE
        refine xg_iald 0 hx hb hG hI (by omega) eY_12 rfl hv dX9_walkAll_23 ?_
        refine lv_istore (lv' := [(4, .int v8), (3, .int (x3 + (-1))), (0, .ref (A 0)), (1, .int p1), (2, .int x2)]) hx hb dX9_walkAll_24 hl (by decide) rfl (fun ls hl => ?_)
        refine lv_aload_n hx hb dX9_walkAll_26 rfl (lv_at hl 2 rfl) ?_
        refine xg_get (C := RX9) (T := TX9) (M := 22) hx hb hown hG hI (by omega) eY_0 rfl inX9 14 (by decide) kf_X9_40 rfl dX9_walkAll_27 ?_
        refine lv_iload_n hx hb dX9_walkAll_30 rfl (lv_at hl 4 rfl) ?_
        refine lv_iload hx hb dX9_walkAll_31 (lv_at hl 0 rfl) ?_
        obtain ⟨mu9, hv, hE⟩ := bd1_some hE
        refine xg_iast 0 hx hb hG hI (by omega) eY_11 rfl hv dX9_walkAll_33 (fun H locs hI => ?_)
        refine lv_iinc (v := x2 + 1) (lv' := [(2, .int (x2 + 1)), (4, .int v8), (3, .int (x3 + (-1))), (0, .ref (A 0)), (1, .int p1)]) hx hb dX9_walkAll_34 hl (k := 4) rfl rfl (by decide) rfl (fun ls hl => ?_)
        refine lv_aload_n hx hb dX9_walkAll_37 rfl (lv_at hl 3 rfl) ?_
        refine lv_iload_n hx hb dX9_walkAll_38 rfl (lv_at hl 4 rfl) ?_
        refine lv_iload hx hb dX9_walkAll_39 (lv_at hl 1 rfl) ?_
        obtain ⟨r10, hc, hE⟩ := bd1_some hE
        refine xc_V1 (rest := []) (c_X9_childrenOf hc) mw_X9_childrenOf km_X9_93 hx hb hml hown hG hI xA_of (wG_atE (by omega) eY_0) rfl rfl ⟨Nat.le_of_ble_eq_true rfl, Nat.le_of_ble_eq_true rfl⟩ rfl hl.1 rfl (Nat.le_of_ble_eq_true rfl) dX9_walkAll_41 (fun H locs hI => ?_)
        refine lv_iconst (v := 1) hx hb dX9_walkAll_44 (by decide) ?_
        refine lv_isub hx hb dX9_walkAll_45 ?_
        refine lv_istore (lv' := [(5, .int (r10 - 1)), (2, .int (x2 + 1)), (4, .int v8), (3, .int (x3 + (-1))), (0, .ref (A 0)), (1, .int p1)]) hx hb dX9_walkAll_46 hl (by decide) rfl (fun ls hl => ?_)
        obtain ⟨x14, mu15, hZ, hE⟩ := bd2_some hE
        have hX48_15 : ∀ (H : Heap) (locs : List Loc) (ls : Array Slot), xI D (va_A (wY A cI u) s.heap.size) s.heap (wY A cI mu15) H locs → lv_has ls 7 [(0, .ref (A 0)), (1, .int p1), (2, .int (x2 + 1)), (3, .int x14)] → W p l e (rmOf 2 46) s m ([.ref (A 0), .int p1] : List Value).toArray below meth c H locs 0 0 (xQ D (tyL cI cZ cD) below ([.ref (A 0), .int p1] : List Value).toArray s (wY A cI u) (some (.int r)) (wY A cI u1)) (F0 m 110 ls []) := by
          intro H locs ls hI hl
          clear hZ
          refine lv_goto (tgt := 11) hx hb dX9_walkAll_110 (by decide) ?_
          exact ih11 _ _ _ _ _ _ hE hI (lv_sub hl [0, 1, 2, 3] rfl)
        replace hE := hZ
        clear hZ
        have hL48 : ∀ (n48 : Nat) (x11 : Int32) (x12 : Int32) (mu13 : Mem) (H : Heap) (locs : List Loc) (ls : Array Slot), X9_walkAll_L48 p1 v8 n48 x11 x12 mu13 = some (x14, mu15) → xI D (va_A (wY A cI u) s.heap.size) s.heap (wY A cI mu13) H locs → lv_has ls 7 [(0, .ref (A 0)), (1, .int p1), (2, .int (x2 + 1)), (3, .int x11), (4, .int v8), (5, .int x12)] → W p l e (rmOf 2 46) s m ([.ref (A 0), .int p1] : List Value).toArray below meth c H locs 0 0 (xQ D (tyL cI cZ cD) below ([.ref (A 0), .int p1] : List Value).toArray s (wY A cI u) (some (.int r)) (wY A cI u1)) (F0 m 48 ls []) := by
          intro n48
          induction n48 with
          | zero =>
            intro x11 x12 mu13 H locs ls hE
            exact absurd hE (by simp [X9_walkAll_L48])
          | succ n48 ih48 =>
            intro x11 x12 mu13 H locs ls hE hI hl
            rw [X9_walkAll_L48] at hE
            refine lv_iload hx hb dX9_walkAll_48 (lv_at hl 5 rfl) ?_
            refine lv_if_lt (tgt := 110) hx hb dX9_walkAll_50 (by decide) (fun c50 => ?_) (fun c50 => ?_)
            · rw [if_pos c50] at hE
              obtain ⟨rfl, rfl⟩ := sm2 hE
              exact hX48_15 _ _ _ hI (lv_sub hl [0, 1, 2, 3] rfl)
            · rw [if_neg c50] at hE
              refine lv_iconst (v := 1) hx hb dX9_walkAll_53 (by decide) ?_
              refine lv_istore (lv' := [(6, .int 1), (0, .ref (A 0)), (1, .int p1), (2, .int (x2 + 1)), (3, .int x11), (4, .int v8), (5, .int x12)]) hx hb dX9_walkAll_54 hl (by decide) rfl (fun ls hl => ?_)
              obtain ⟨x20, mu21, hZ, hE⟩ := bd2_some hE
              have hX56_21 : ∀ (H : Heap) (locs : List Loc) (ls : Array Slot), xI D (va_A (wY A cI u) s.heap.size) s.heap (wY A cI mu21) H locs → lv_has ls 7 [(0, .ref (A 0)), (1, .int p1), (2, .int (x2 + 1)), (3, .int x20), (4, .int v8), (5, .int x12)] → W p l e (rmOf 2 46) s m ([.ref (A 0), .int p1] : List Value).toArray below meth c H locs 0 0 (xQ D (tyL cI cZ cD) below ([.ref (A 0), .int p1] : List Value).toArray s (wY A cI u) (some (.int r)) (wY A cI u1)) (F0 m 104 ls []) := by
                intro H locs ls hI hl
                clear hZ
                refine lv_iinc (v := x12 + (-1)) (lv' := [(5, .int (x12 + (-1))), (0, .ref (A 0)), (1, .int p1), (2, .int (x2 + 1)), (3, .int x20), (4, .int v8)]) hx hb dX9_walkAll_104 hl (k := 5) rfl (congrArg (x12 + ·) (by decide)) (by decide) rfl (fun ls hl => ?_)
                refine lv_goto (tgt := 48) hx hb dX9_walkAll_107 (by decide) ?_
                exact ih48 _ _ _ _ _ _ hE hI (lv_sub hl [1, 2, 3, 4, 5, 0] rfl)
              replace hE := hZ
              clear hZ
              have hL56 : ∀ (n56 : Nat) (x17 : Int32) (x18 : Int32) (mu19 : Mem) (H : Heap) (locs : List Loc) (ls : Array Slot), X9_walkAll_L56 p1 v8 x12 n56 x17 x18 mu19 = some (x20, mu21) → xI D (va_A (wY A cI u) s.heap.size) s.heap (wY A cI mu19) H locs → lv_has ls 7 [(0, .ref (A 0)), (1, .int p1), (2, .int (x2 + 1)), (3, .int x17), (4, .int v8), (5, .int x12), (6, .int x18)] → W p l e (rmOf 2 46) s m ([.ref (A 0), .int p1] : List Value).toArray below meth c H locs 0 0 (xQ D (tyL cI cZ cD) below ([.ref (A 0), .int p1] : List Value).toArray s (wY A cI u) (some (.int r)) (wY A cI u1)) (F0 m 56 ls []) := by
                intro n56
                induction n56 with
                | zero =>
                  intro x17 x18 mu19 H locs ls hE
                  exact absurd hE (by simp [X9_walkAll_L56])
                | succ n56 ih56 =>
                  intro x17 x18 mu19 H locs ls hE hI hl
                  rw [X9_walkAll_L56] at hE
                  refine lv_iload hx hb dX9_walkAll_56 (lv_at hl 6 rfl) ?_
                  refine lv_bipush (v := 16) hx hb dX9_walkAll_58 (by decide) ?_
                  refine lv_icmp_ge (tgt := 104) hx hb dX9_walkAll_60 (by decide) (fun c60 => ?_) (fun c60 => ?_)
                  · rw [if_pos c60] at hE
                    obtain ⟨rfl, rfl⟩ := sm2 hE
                    exact hX56_21 _ _ _ hI (lv_sub hl [0, 1, 2, 3, 4, 5] rfl)
                  · rw [if_neg c60] at hE
                    refine lv_aload_n hx hb dX9_walkAll_63 rfl (lv_at hl 0 rfl) ?_
                    refine lv_iload_n hx hb dX9_walkAll_64 rfl (lv_at hl 1 rfl) ?_
                    refine lv_iload hx hb dX9_walkAll_65 (lv_at hl 6 rfl) ?_
                    obtain ⟨r23, hc, hE⟩ := bd1_some hE
                    refine xc_V1 (rest := []) (c_X9_parentOf hc) mw_X9_parentOf km_X9_76 hx hb hml hown hG hI xA_of (wG_atE (by omega) eY_0) rfl rfl ⟨Nat.le_of_ble_eq_true rfl, Nat.le_of_ble_eq_true rfl⟩ rfl hl.1 rfl (Nat.le_of_ble_eq_true rfl) dX9_walkAll_67 (fun H locs hI => ?_)
                    refine lv_iload hx hb dX9_walkAll_70 (lv_at hl 4 rfl) ?_
                    refine lv_icmp_ne (tgt := 98) hx hb dX9_walkAll_72 (by decide) (fun c72 => ?_) (fun c72 => ?_)
                    · rw [if_neg c72] at hE
                      refine lv_iinc (v := x18 + 1) (lv' := [(6, .int (x18 + 1)), (0, .ref (A 0)), (1, .int p1), (2, .int (x2 + 1)), (3, .int x17), (4, .int v8), (5, .int x12)]) hx hb dX9_walkAll_98 hl (k := 6) rfl rfl (by decide) rfl (fun ls hl => ?_)
                      refine lv_goto (tgt := 56) hx hb dX9_walkAll_101 (by decide) ?_
                      exact ih56 _ _ _ _ _ _ hE hI (lv_sub hl [1, 2, 3, 4, 5, 6, 0] rfl)
                    · rw [if_pos c72] at hE
                      refine lv_aload_n hx hb dX9_walkAll_75 rfl (lv_at hl 0 rfl) ?_
                      refine lv_iload_n hx hb dX9_walkAll_76 rfl (lv_at hl 1 rfl) ?_
                      refine lv_iload hx hb dX9_walkAll_77 (lv_at hl 6 rfl) ?_
                      obtain ⟨r24, hc, hE⟩ := bd1_some hE
                      refine xc_V1 (rest := []) (c_X9_placeOf hc) mw_X9_placeOf km_X9_80 hx hb hml hown hG hI xA_of (wG_atE (by omega) eY_0) rfl rfl ⟨Nat.le_of_ble_eq_true rfl, Nat.le_of_ble_eq_true rfl⟩ rfl hl.1 rfl (Nat.le_of_ble_eq_true rfl) dX9_walkAll_79 (fun H locs hI => ?_)
                      refine lv_iload hx hb dX9_walkAll_82 (lv_at hl 5 rfl) ?_
                      refine lv_icmp_ne (tgt := 98) hx hb dX9_walkAll_84 (by decide) (fun c84 => ?_) (fun c84 => ?_)
                      · rw [if_neg c84] at hE
                        refine lv_iinc (v := x18 + 1) (lv' := [(6, .int (x18 + 1)), (0, .ref (A 0)), (1, .int p1), (2, .int (x2 + 1)), (3, .int x17), (4, .int v8), (5, .int x12)]) hx hb dX9_walkAll_98 hl (k := 6) rfl rfl (by decide) rfl (fun ls hl => ?_)
                        refine lv_goto (tgt := 56) hx hb dX9_walkAll_101 (by decide) ?_
                        exact ih56 _ _ _ _ _ _ hE hI (lv_sub hl [1, 2, 3, 4, 5, 6, 0] rfl)
                      · rw [if_pos c84] at hE
                        refine lv_aload_n hx hb dX9_walkAll_87 rfl (lv_at hl 0 rfl) ?_
                        refine xg_get (C := RX9) (T := TX9) (M := 22) hx hb hown hG hI (by omega) eY_0 rfl inX9 15 (by decide) kf_X9_43 rfl dX9_walkAll_88 ?_
                        refine lv_iload_n hx hb dX9_walkAll_91 rfl (lv_at hl 3 rfl) ?_
                        refine lv_iload hx hb dX9_walkAll_92 (lv_at hl 6 rfl) ?_
                        obtain ⟨mu25, hv, hE⟩ := bd1_some hE
                        refine xg_iast 0 hx hb hG hI (by omega) eY_12 rfl hv dX9_walkAll_94 (fun H locs hI => ?_)
                        refine lv_iinc (v := x17 + 1) (lv' := [(3, .int (x17 + 1)), (0, .ref (A 0)), (1, .int p1), (2, .int (x2 + 1)), (4, .int v8), (5, .int x12), (6, .int x18)]) hx hb dX9_walkAll_95 hl (k := 3) rfl rfl (by decide) rfl (fun ls hl => ?_)
                        refine lv_iinc (v := x18 + 1) (lv' := [(6, .int (x18 + 1)), (3, .int (x17 + 1)), (0, .ref (A 0)), (1, .int p1), (2, .int (x2 + 1)), (4, .int v8), (5, .int x12)]) hx hb dX9_walkAll_98 hl (k := 6) rfl rfl (by decide) rfl (fun ls hl => ?_)
                        refine lv_goto (tgt := 56) hx hb dX9_walkAll_101 (by decide) ?_
                        exact ih56 _ _ _ _ _ _ hE hI (lv_sub hl [2, 3, 4, 1, 5, 6, 0] rfl)
              exact hL56 _ _ _ _ _ _ _ hE hI (lv_sub hl [1, 2, 3, 4, 5, 6, 0] rfl)
        exact hL48 _ _ _ _ _ _ _ hE hI (lv_sub hl [4, 5, 1, 3, 2, 0] rfl)
  exact hL11 _ _ _ _ _ _ _ hE hI (lv_sub hl [2, 3, 1, 0] rfl)
def X9_walk (u : Mem) (p1 : Int32) (p2 : Int32) : Option (Int32 × Mem) :=
  bd2 (X9_isAsked u p1) fun (r1 : Bool) (mu2 : Mem) => (if (b2i r1) = 0 then bd2 (X9_refuse mu2 (-2)) fun (r3 : Int32) (mu4 : Mem) => some (r3, mu4) else (if 0 ≤ p2 then bd2 (X9_walkAll mu2 p1) fun (r5 : Int32) (mu6 : Mem) => (if r5 ≤ p2 then some ((-1), mu6) else (rd 16 (mu6 11) p2).bind fun v7 => some (v7, mu6)) else bd2 (X9_refuse mu2 (-2)) fun (r8 : Int32) (mu9 : Mem) => some (r8, mu9)))
set_option maxHeartbeats 4000000 in
set_option maxRecDepth 100000 in
theorem c_X9_walk {l : Launch} {D : va_G} {A : Nat → Nat} {cI cZ cD : ClassId} {u u1 : Mem} {p1 : Int32} {p2 : Int32} {r : Int32}  (hE : X9_walk u p1 p2 = some (r, u1)) : Ct l yX9_walk cX9_walk 3 (some .int) (rmOf 5 117) D (tyL cI cZ cD) [.ref (A 0), .int p1, .int p2] (wY A cI u) (some (.int r)) (wY A cI u1) := by
  refine Ct.ofW (by decide +kernel) (fun p e s m below meth c hC hI => ?_)
  obtain ⟨hx, hb, hml, hown, hr, hlk, hG⟩ := hC
  have hown : s.vm.findClass RX9 = some m.cls := hown
  have hl := lv_entry ([.ref (A 0), .int p1, .int p2] : List Value) (n := 3) (Nat.le_of_ble_eq_true rfl)
  rw [lg_entry_eq]
  generalize (lg_sl ([.ref (A 0), .int p1, .int p2] : List Value) ++ List.replicate (3 - (lg_sl ([.ref (A 0), .int p1, .int p2] : List Value)).length) Slot.unset).toArray = ls at hl ⊢
  have hl : lv_has ls 3 [(0, .ref (A 0)), (1, .int p1), (2, .int p2)] := hl
  unfold X9_walk at hE
  refine lv_aload_n hx hb dX9_walk_0 rfl (lv_at hl 0 rfl) ?_
  refine lv_iload_n hx hb dX9_walk_1 rfl (lv_at hl 1 rfl) ?_
  obtain ⟨r1, mu2, hc, hE⟩ := bd2_some hE
  refine xc_V1 (rest := []) (c_X9_isAsked hc) mw_X9_isAsked km_X9_183 hx hb hml hown hG hI xA_of (wG_atE (by omega) eY_0) rfl rfl ⟨Nat.le_of_ble_eq_true rfl, Nat.le_of_ble_eq_true rfl⟩ rfl hl.1 rfl (Nat.le_of_ble_eq_true rfl) dX9_walk_2 (fun H locs hI => ?_)
  refine lv_if_eq (tgt := 12) hx hb dX9_walk_5 (by decide) (fun c5 => ?_) (fun c5 => ?_)
  · rw [if_pos c5] at hE
    refine lv_aload_n hx hb dX9_walk_12 rfl (lv_at hl 0 rfl) ?_
    refine lv_bipush (v := (-2)) hx hb dX9_walk_13 (by decide) ?_
    obtain ⟨r3, mu4, hc, hE⟩ := bd2_some hE
    refine xc_V1 (rest := []) (c_X9_refuse hc) mw_X9_refuse km_X9_60 hx hb hml hown hG hI xA_of (wG_atE (by omega) eY_0) rfl rfl ⟨Nat.le_of_ble_eq_true rfl, Nat.le_of_ble_eq_true rfl⟩ rfl hl.1 rfl (Nat.le_of_ble_eq_true rfl) dX9_walk_15 (fun H locs hI => ?_)
    obtain ⟨rfl, rfl⟩ := sm2 hE
    exact xr_i hx hb hr hlk hG hI dX9_walk_18
  · rw [if_neg c5] at hE
    refine lv_iload_n hx hb dX9_walk_8 rfl (lv_at hl 2 rfl) ?_
    refine lv_if_ge (tgt := 19) hx hb dX9_walk_9 (by decide) (fun c9 => ?_) (fun c9 => ?_)
    · rw [if_pos c9] at hE
      refine lv_iload_n hx hb dX9_walk_19 rfl (lv_at hl 2 rfl) ?_
      refine lv_aload_n hx hb dX9_walk_20 rfl (lv_at hl 0 rfl) ?_
      refine lv_iload_n hx hb dX9_walk_21 rfl (lv_at hl 1 rfl) ?_
      obtain ⟨r5, mu6, hc, hE⟩ := bd2_some hE
      refine xc_V1 (rest := [.int p2]) (c_X9_walkAll hc) mw_X9_walkAll km_X9_190 hx hb hml hown hG hI xA_of (wG_atE (by omega) eY_0) rfl rfl ⟨Nat.le_of_ble_eq_true rfl, Nat.le_of_ble_eq_true rfl⟩ rfl hl.1 rfl (Nat.le_of_ble_eq_true rfl) dX9_walk_22 (fun H locs hI => ?_)
      refine lv_icmp_ge (tgt := 37) hx hb dX9_walk_25 (by decide) (fun c25 => ?_) (fun c25 => ?_)
      · rw [if_pos c25] at hE
        refine lv_iconst (v := (-1)) hx hb dX9_walk_37 (by decide) ?_
        obtain ⟨rfl, rfl⟩ := sm2 hE
        exact xr_i hx hb hr hlk hG hI dX9_walk_38
      · rw [if_neg c25] at hE
        refine lv_aload_n hx hb dX9_walk_28 rfl (lv_at hl 0 rfl) ?_
        refine xg_get (C := RX9) (T := TX9) (M := 22) hx hb hown hG hI (by omega) eY_0 rfl inX9 14 (by decide) kf_X9_40 rfl dX9_walk_29 ?_
        refine lv_iload_n hx hb dX9_walk_32 rfl (lv_at hl 2 rfl) ?_
        obtain ⟨v7, hv, hE⟩ := bd1_some hE
        refine xg_iald 0 hx hb hG hI (by omega) eY_11 rfl hv dX9_walk_33 ?_
        refine lv_goto (tgt := 38) hx hb dX9_walk_34 (by decide) ?_
        obtain ⟨rfl, rfl⟩ := sm2 hE
        exact xr_i hx hb hr hlk hG hI dX9_walk_38
    · rw [if_neg c9] at hE
      refine lv_aload_n hx hb dX9_walk_12 rfl (lv_at hl 0 rfl) ?_
      refine lv_bipush (v := (-2)) hx hb dX9_walk_13 (by decide) ?_
      obtain ⟨r8, mu9, hc, hE⟩ := bd2_some hE
      refine xc_V1 (rest := []) (c_X9_refuse hc) mw_X9_refuse km_X9_60 hx hb hml hown hG hI xA_of (wG_atE (by omega) eY_0) rfl rfl ⟨Nat.le_of_ble_eq_true rfl, Nat.le_of_ble_eq_true rfl⟩ rfl hl.1 rfl (Nat.le_of_ble_eq_true rfl) dX9_walk_15 (fun H locs hI => ?_)
      obtain ⟨rfl, rfl⟩ := sm2 hE
      exact xr_i hx hb hr hlk hG hI dX9_walk_18
def X9_deepOf_L16 (p1 : Int32) (u : Mem) (x2 : Int32) : Nat → Int32 → Int32 → Option (Int32)
  | 0, _, _ => none
  | n16 + 1, x5, x6 =>
    (X9_isIn u p1 x2 : Option Bool).bind fun (r9 : Bool) => (if (b2i r9) = 0 then some x5 else (if x6 ≤ 0 then some x5 else (X9_parentOf u p1 x6 : Option Int32).bind fun (r10 : Int32) => X9_deepOf_L16 p1 u x2 n16 (x5 + 1) r10))
def X9_deepOf_L4 (p1 : Int32) (u : Mem) : Nat → Int32 → Int32 → Option (Int32)
  | 0, _, _ => none
  | n4 + 1, x1, x2 =>
    (if 16 ≤ x2 then some x1 else (X9_deepOf_L16 p1 u x2 fu 0 x2 : Option Int32).bind fun (x7 : Int32) => (if x7 ≤ x1 then X9_deepOf_L4 p1 u n4 x1 (x2 + 1) else X9_deepOf_L4 p1 u n4 x7 (x2 + 1)))
def X9_deepOf (u : Mem) (p1 : Int32) : Option (Int32) :=
  (X9_deepOf_L4 p1 u fu 0 1 : Option Int32).bind fun (x3 : Int32) => some x3
set_option maxHeartbeats 4000000 in
set_option maxRecDepth 100000 in
theorem c_X9_deepOf {l : Launch} {D : va_G} {A : Nat → Nat} {cI cZ cD : ClassId} {u : Mem} {p1 : Int32} {r : Int32}  (hE : X9_deepOf u p1 = some (r)) : Ct l yX9_deepOf cX9_deepOf 6 (some .int) (rmOf 1 22) D (tyL cI cZ cD) [.ref (A 0), .int p1] (wY A cI u) (some (.int r)) (wY A cI u) := by
  refine Ct.ofW (by decide +kernel) (fun p e s m below meth c hC hI => ?_)
  obtain ⟨hx, hb, hml, hown, hr, hlk, hG⟩ := hC
  have hown : s.vm.findClass RX9 = some m.cls := hown
  have hl := lv_entry ([.ref (A 0), .int p1] : List Value) (n := 6) (Nat.le_of_ble_eq_true rfl)
  rw [lg_entry_eq]
  generalize (lg_sl ([.ref (A 0), .int p1] : List Value) ++ List.replicate (6 - (lg_sl ([.ref (A 0), .int p1] : List Value)).length) Slot.unset).toArray = ls at hl ⊢
  have hl : lv_has ls 6 [(0, .ref (A 0)), (1, .int p1)] := hl
  unfold X9_deepOf at hE
  refine lv_iconst (v := 0) hx hb dX9_deepOf_0 (by decide) ?_
  refine lv_istore_n (lv' := [(2, .int 0), (0, .ref (A 0)), (1, .int p1)]) hx hb dX9_deepOf_1 rfl hl (by decide) rfl (fun ls hl => ?_)
  refine lv_iconst (v := 1) hx hb dX9_deepOf_2 (by decide) ?_
  refine lv_istore_n (lv' := [(3, .int 1), (2, .int 0), (0, .ref (A 0)), (1, .int p1)]) hx hb dX9_deepOf_3 rfl hl (by decide) rfl (fun ls hl => ?_)
  obtain ⟨x3, hZ, hE⟩ := bd1_some hE
  have hX4_3 : ∀ (H : Heap) (locs : List Loc) (ls : Array Slot), xI D (va_A (wY A cI u) s.heap.size) s.heap (wY A cI u) H locs → lv_has ls 6 [(2, .int x3)] → W p l e (rmOf 1 22) s m ([.ref (A 0), .int p1] : List Value).toArray below meth c H locs 0 0 (xQ D (tyL cI cZ cD) below ([.ref (A 0), .int p1] : List Value).toArray s (wY A cI u) (some (.int r)) (wY A cI u)) (F0 m 64 ls []) := by
    intro H locs ls hI hl
    clear hZ
    refine lv_iload_n hx hb dX9_deepOf_64 rfl (lv_at hl 0 rfl) ?_
    obtain rfl := sm1 hE
    exact xr_i hx hb hr hlk hG hI dX9_deepOf_65
  replace hE := hZ
  clear hZ
  have hL4 : ∀ (n4 : Nat) (x1 : Int32) (x2 : Int32) (H : Heap) (locs : List Loc) (ls : Array Slot), X9_deepOf_L4 p1 u n4 x1 x2 = some x3 → xI D (va_A (wY A cI u) s.heap.size) s.heap (wY A cI u) H locs → lv_has ls 6 [(0, .ref (A 0)), (1, .int p1), (2, .int x1), (3, .int x2)] → W p l e (rmOf 1 22) s m ([.ref (A 0), .int p1] : List Value).toArray below meth c H locs 0 0 (xQ D (tyL cI cZ cD) below ([.ref (A 0), .int p1] : List Value).toArray s (wY A cI u) (some (.int r)) (wY A cI u)) (F0 m 4 ls []) := by
    intro n4
    induction n4 with
    | zero =>
      intro x1 x2 H locs ls hE
      exact absurd hE (by simp [X9_deepOf_L4])
    | succ n4 ih4 =>
      intro x1 x2 H locs ls hE hI hl
      rw [X9_deepOf_L4] at hE
      refine lv_iload_n hx hb dX9_deepOf_4 rfl (lv_at hl 3 rfl) ?_
      refine lv_bipush (v := 16) hx hb dX9_deepOf_5 (by decide) ?_
      refine lv_icmp_ge (tgt := 64) hx hb dX9_deepOf_7 (by decide) (fun c7 => ?_) (fun c7 => ?_)
      · rw [if_pos c7] at hE
        obtain rfl := sm1 hE
        exact hX4_3 _ _ _ hI (lv_sub hl [2] rfl)
      · rw [if_neg c7] at hE
        refine lv_iconst (v := 0) hx hb dX9_deepOf_10 (by decide) ?_
        refine lv_istore (lv' := [(4, .int 0), (0, .ref (A 0)), (1, .int p1), (2, .int x1), (3, .int x2)]) hx hb dX9_deepOf_11 hl (by decide) rfl (fun ls hl => ?_)
        refine lv_iload_n hx hb dX9_deepOf_13 rfl (lv_at hl 4 rfl) ?_
        refine lv_istore (lv' := [(5, .int x2), (4, .int 0), (0, .ref (A 0)), (1, .int p1), (2, .int x1), (3, .int x2)]) hx hb dX9_deepOf_14 hl (by decide) rfl (fun ls hl => ?_)
        obtain ⟨x7, hZ, hE⟩ := bd1_some hE
        have hX16_7 : ∀ (H : Heap) (locs : List Loc) (ls : Array Slot), xI D (va_A (wY A cI u) s.heap.size) s.heap (wY A cI u) H locs → lv_has ls 6 [(0, .ref (A 0)), (1, .int p1), (2, .int x1), (3, .int x2), (4, .int x7)] → W p l e (rmOf 1 22) s m ([.ref (A 0), .int p1] : List Value).toArray below meth c H locs 0 0 (xQ D (tyL cI cZ cD) below ([.ref (A 0), .int p1] : List Value).toArray s (wY A cI u) (some (.int r)) (wY A cI u)) (F0 m 45 ls []) := by
          intro H locs ls hI hl
          clear hZ
          refine lv_iload hx hb dX9_deepOf_45 (lv_at hl 4 rfl) ?_
          refine lv_iload_n hx hb dX9_deepOf_47 rfl (lv_at hl 2 rfl) ?_
          refine lv_icmp_le (tgt := 56) hx hb dX9_deepOf_48 (by decide) (fun c48 => ?_) (fun c48 => ?_)
          · rw [if_pos c48] at hE
            refine lv_iload_n hx hb dX9_deepOf_56 rfl (lv_at hl 2 rfl) ?_
            refine lv_istore_n (lv' := [(2, .int x1), (0, .ref (A 0)), (1, .int p1), (3, .int x2), (4, .int x7)]) hx hb dX9_deepOf_57 rfl hl (by decide) rfl (fun ls hl => ?_)
            refine lv_iinc (v := x2 + 1) (lv' := [(3, .int (x2 + 1)), (2, .int x1), (0, .ref (A 0)), (1, .int p1), (4, .int x7)]) hx hb dX9_deepOf_58 hl (k := 3) rfl rfl (by decide) rfl (fun ls hl => ?_)
            refine lv_goto (tgt := 4) hx hb dX9_deepOf_61 (by decide) ?_
            exact ih4 _ _ _ _ _ hE hI (lv_sub hl [2, 3, 1, 0] rfl)
          · rw [if_neg c48] at hE
            refine lv_iload hx hb dX9_deepOf_51 (lv_at hl 4 rfl) ?_
            refine lv_goto (tgt := 57) hx hb dX9_deepOf_53 (by decide) ?_
            refine lv_istore_n (lv' := [(2, .int x7), (0, .ref (A 0)), (1, .int p1), (3, .int x2), (4, .int x7)]) hx hb dX9_deepOf_57 rfl hl (by decide) rfl (fun ls hl => ?_)
            refine lv_iinc (v := x2 + 1) (lv' := [(3, .int (x2 + 1)), (2, .int x7), (0, .ref (A 0)), (1, .int p1), (4, .int x7)]) hx hb dX9_deepOf_58 hl (k := 3) rfl rfl (by decide) rfl (fun ls hl => ?_)
            refine lv_goto (tgt := 4) hx hb dX9_deepOf_61 (by decide) ?_
            exact ih4 _ _ _ _ _ hE hI (lv_sub hl [2, 3, 1, 0] rfl)
        replace hE := hZ
        clear hZ
        have hL16 : ∀ (n16 : Nat) (x5 : Int32) (x6 : Int32) (H : Heap) (locs : List Loc) (ls : Array Slot), X9_deepOf_L16 p1 u x2 n16 x5 x6 = some x7 → xI D (va_A (wY A cI u) s.heap.size) s.heap (wY A cI u) H locs → lv_has ls 6 [(0, .ref (A 0)), (1, .int p1), (2, .int x1), (3, .int x2), (4, .int x5), (5, .int x6)] → W p l e (rmOf 1 22) s m ([.ref (A 0), .int p1] : List Value).toArray below meth c H locs 0 0 (xQ D (tyL cI cZ cD) below ([.ref (A 0), .int p1] : List Value).toArray s (wY A cI u) (some (.int r)) (wY A cI u)) (F0 m 16 ls []) := by
          intro n16
          induction n16 with
          | zero =>
            intro x5 x6 H locs ls hE
            exact absurd hE (by simp [X9_deepOf_L16])
          | succ n16 ih16 =>
            intro x5 x6 H locs ls hE hI hl
            rw [X9_deepOf_L16] at hE
            refine lv_aload_n hx hb dX9_deepOf_16 rfl (lv_at hl 0 rfl) ?_
            refine lv_iload_n hx hb dX9_deepOf_17 rfl (lv_at hl 1 rfl) ?_
            refine lv_iload_n hx hb dX9_deepOf_18 rfl (lv_at hl 3 rfl) ?_
            obtain ⟨r9, hc, hE⟩ := bd1_some hE
            refine xc_V1 (rest := []) (c_X9_isIn hc) mw_X9_isIn km_X9_72 hx hb hml hown hG hI xA_of (wG_atE (by omega) eY_0) rfl rfl ⟨Nat.le_of_ble_eq_true rfl, Nat.le_of_ble_eq_true rfl⟩ rfl hl.1 rfl (Nat.le_of_ble_eq_true rfl) dX9_deepOf_19 (fun H locs hI => ?_)
            refine lv_if_eq (tgt := 45) hx hb dX9_deepOf_22 (by decide) (fun c22 => ?_) (fun c22 => ?_)
            · rw [if_pos c22] at hE
              obtain rfl := sm1 hE
              exact hX16_7 _ _ _ hI (lv_sub hl [0, 1, 2, 3, 4] rfl)
            · rw [if_neg c22] at hE
              refine lv_iload hx hb dX9_deepOf_25 (lv_at hl 5 rfl) ?_
              refine lv_if_le (tgt := 45) hx hb dX9_deepOf_27 (by decide) (fun c27 => ?_) (fun c27 => ?_)
              · rw [if_pos c27] at hE
                obtain rfl := sm1 hE
                exact hX16_7 _ _ _ hI (lv_sub hl [0, 1, 2, 3, 4] rfl)
              · rw [if_neg c27] at hE
                refine lv_iinc (v := x5 + 1) (lv' := [(4, .int (x5 + 1)), (0, .ref (A 0)), (1, .int p1), (2, .int x1), (3, .int x2), (5, .int x6)]) hx hb dX9_deepOf_30 hl (k := 4) rfl rfl (by decide) rfl (fun ls hl => ?_)
                refine lv_aload_n hx hb dX9_deepOf_33 rfl (lv_at hl 1 rfl) ?_
                refine lv_iload_n hx hb dX9_deepOf_34 rfl (lv_at hl 2 rfl) ?_
                refine lv_iload hx hb dX9_deepOf_35 (lv_at hl 5 rfl) ?_
                obtain ⟨r10, hc, hE⟩ := bd1_some hE
                refine xc_V1 (rest := []) (c_X9_parentOf hc) mw_X9_parentOf km_X9_76 hx hb hml hown hG hI xA_of (wG_atE (by omega) eY_0) rfl rfl ⟨Nat.le_of_ble_eq_true rfl, Nat.le_of_ble_eq_true rfl⟩ rfl hl.1 rfl (Nat.le_of_ble_eq_true rfl) dX9_deepOf_37 (fun H locs hI => ?_)
                refine lv_istore (lv' := [(5, .int r10), (4, .int (x5 + 1)), (0, .ref (A 0)), (1, .int p1), (2, .int x1), (3, .int x2)]) hx hb dX9_deepOf_40 hl (by decide) rfl (fun ls hl => ?_)
                refine lv_goto (tgt := 16) hx hb dX9_deepOf_42 (by decide) ?_
                exact ih16 _ _ _ _ _ hE hI (lv_sub hl [2, 3, 4, 5, 1, 0] rfl)
        exact hL16 _ _ _ _ _ _ hE hI (lv_sub hl [2, 3, 4, 5, 1, 0] rfl)
  exact hL4 _ _ _ _ _ _ hE hI (lv_sub hl [2, 3, 1, 0] rfl)
def X9_size (u : Mem) (p1 : Int32) (p2 : Int32) : Option (Int32 × Mem) :=
  bd2 (X9_isAsked u p1) fun (r1 : Bool) (mu2 : Mem) => (if (b2i r1) = 0 then bd2 (X9_refuse mu2 (-2)) fun (r3 : Int32) (mu4 : Mem) => some (r3, mu4) else (X9_in p2 0 1 : Option Bool).bind fun (r5 : Bool) => (if (b2i r5) = 0 then bd2 (X9_refuse mu2 (-2)) fun (r8 : Int32) (mu9 : Mem) => some (r8, mu9) else (if p2 = 0 then (X9_manyIn mu2 p1 : Option Int32).bind fun (r7 : Int32) => some (r7, mu2) else (X9_deepOf mu2 p1 : Option Int32).bind fun (r6 : Int32) => some (r6, mu2))))
set_option maxHeartbeats 4000000 in
set_option maxRecDepth 100000 in
theorem c_X9_size {l : Launch} {D : va_G} {A : Nat → Nat} {cI cZ cD : ClassId} {u u1 : Mem} {p1 : Int32} {p2 : Int32} {r : Int32}  (hE : X9_size u p1 p2 = some (r, u1)) : Ct l yX9_size cX9_size 3 (some .int) (rmOf 5 117) D (tyL cI cZ cD) [.ref (A 0), .int p1, .int p2] (wY A cI u) (some (.int r)) (wY A cI u1) := by
  refine Ct.ofW (by decide +kernel) (fun p e s m below meth c hC hI => ?_)
  obtain ⟨hx, hb, hml, hown, hr, hlk, hG⟩ := hC
  have hown : s.vm.findClass RX9 = some m.cls := hown
  have hl := lv_entry ([.ref (A 0), .int p1, .int p2] : List Value) (n := 3) (Nat.le_of_ble_eq_true rfl)
  rw [lg_entry_eq]
  generalize (lg_sl ([.ref (A 0), .int p1, .int p2] : List Value) ++ List.replicate (3 - (lg_sl ([.ref (A 0), .int p1, .int p2] : List Value)).length) Slot.unset).toArray = ls at hl ⊢
  have hl : lv_has ls 3 [(0, .ref (A 0)), (1, .int p1), (2, .int p2)] := hl
  unfold X9_size at hE
  refine lv_aload_n hx hb dX9_size_0 rfl (lv_at hl 0 rfl) ?_
  refine lv_iload_n hx hb dX9_size_1 rfl (lv_at hl 1 rfl) ?_
  obtain ⟨r1, mu2, hc, hE⟩ := bd2_some hE
  refine xc_V1 (rest := []) (c_X9_isAsked hc) mw_X9_isAsked km_X9_183 hx hb hml hown hG hI xA_of (wG_atE (by omega) eY_0) rfl rfl ⟨Nat.le_of_ble_eq_true rfl, Nat.le_of_ble_eq_true rfl⟩ rfl hl.1 rfl (Nat.le_of_ble_eq_true rfl) dX9_size_2 (fun H locs hI => ?_)
  refine lv_if_eq (tgt := 17) hx hb dX9_size_5 (by decide) (fun c5 => ?_) (fun c5 => ?_)
  · rw [if_pos c5] at hE
    refine lv_aload_n hx hb dX9_size_17 rfl (lv_at hl 0 rfl) ?_
    refine lv_bipush (v := (-2)) hx hb dX9_size_18 (by decide) ?_
    obtain ⟨r3, mu4, hc, hE⟩ := bd2_some hE
    refine xc_V1 (rest := []) (c_X9_refuse hc) mw_X9_refuse km_X9_60 hx hb hml hown hG hI xA_of (wG_atE (by omega) eY_0) rfl rfl ⟨Nat.le_of_ble_eq_true rfl, Nat.le_of_ble_eq_true rfl⟩ rfl hl.1 rfl (Nat.le_of_ble_eq_true rfl) dX9_size_20 (fun H locs hI => ?_)
    obtain ⟨rfl, rfl⟩ := sm2 hE
    exact xr_i hx hb hr hlk hG hI dX9_size_23
  · rw [if_neg c5] at hE
    refine lv_iload_n hx hb dX9_size_8 rfl (lv_at hl 2 rfl) ?_
    refine lv_iconst (v := 0) hx hb dX9_size_9 (by decide) ?_
    refine lv_iconst (v := 1) hx hb dX9_size_10 (by decide) ?_
    obtain ⟨r5, hc, hE⟩ := bd1_some hE
    refine xc_S1 (rest := []) (c_X9_in hc) mw_X9_in km_X9_68 hx hb hml hown hG hI xA_of ⟨Nat.le_of_ble_eq_true rfl, Nat.le_of_ble_eq_true rfl⟩ rfl hl.1 rfl (Nat.le_of_ble_eq_true rfl) dX9_size_11 (fun H locs hI => ?_)
    refine lv_if_ne (tgt := 24) hx hb dX9_size_14 (by decide) (fun c14 => ?_) (fun c14 => ?_)
    · rw [if_neg c14] at hE
      refine lv_iload_n hx hb dX9_size_24 rfl (lv_at hl 2 rfl) ?_
      refine lv_if_ne (tgt := 36) hx hb dX9_size_25 (by decide) (fun c25 => ?_) (fun c25 => ?_)
      · rw [if_neg c25] at hE
        refine lv_aload_n hx hb dX9_size_36 rfl (lv_at hl 0 rfl) ?_
        refine lv_iload_n hx hb dX9_size_37 rfl (lv_at hl 1 rfl) ?_
        obtain ⟨r6, hc, hE⟩ := bd1_some hE
        refine xc_V1 (rest := []) (c_X9_deepOf hc) mw_X9_deepOf km_X9_193 hx hb hml hown hG hI xA_of (wG_atE (by omega) eY_0) rfl rfl ⟨Nat.le_of_ble_eq_true rfl, Nat.le_of_ble_eq_true rfl⟩ rfl hl.1 rfl (Nat.le_of_ble_eq_true rfl) dX9_size_38 (fun H locs hI => ?_)
        obtain ⟨rfl, rfl⟩ := sm2 hE
        exact xr_i hx hb hr hlk hG hI dX9_size_41
      · rw [if_pos c25] at hE
        refine lv_aload_n hx hb dX9_size_28 rfl (lv_at hl 0 rfl) ?_
        refine lv_iload_n hx hb dX9_size_29 rfl (lv_at hl 1 rfl) ?_
        obtain ⟨r7, hc, hE⟩ := bd1_some hE
        refine xc_V1 (rest := []) (c_X9_manyIn hc) mw_X9_manyIn km_X9_112 hx hb hml hown hG hI xA_of (wG_atE (by omega) eY_0) rfl rfl ⟨Nat.le_of_ble_eq_true rfl, Nat.le_of_ble_eq_true rfl⟩ rfl hl.1 rfl (Nat.le_of_ble_eq_true rfl) dX9_size_30 (fun H locs hI => ?_)
        refine lv_goto (tgt := 41) hx hb dX9_size_33 (by decide) ?_
        obtain ⟨rfl, rfl⟩ := sm2 hE
        exact xr_i hx hb hr hlk hG hI dX9_size_41
    · rw [if_pos c14] at hE
      refine lv_aload_n hx hb dX9_size_17 rfl (lv_at hl 0 rfl) ?_
      refine lv_bipush (v := (-2)) hx hb dX9_size_18 (by decide) ?_
      obtain ⟨r8, mu9, hc, hE⟩ := bd2_some hE
      refine xc_V1 (rest := []) (c_X9_refuse hc) mw_X9_refuse km_X9_60 hx hb hml hown hG hI xA_of (wG_atE (by omega) eY_0) rfl rfl ⟨Nat.le_of_ble_eq_true rfl, Nat.le_of_ble_eq_true rfl⟩ rfl hl.1 rfl (Nat.le_of_ble_eq_true rfl) dX9_size_20 (fun H locs hI => ?_)
      obtain ⟨rfl, rfl⟩ := sm2 hE
      exact xr_i hx hb hr hlk hG hI dX9_size_23
def X9_alike_L28 (p1 : Int32) (p2 : Int32) (mu6 : Mem) : Nat → Int32 → Int32 → Option (Int32)
  | 0, _, _ => none
  | n28 + 1, x7, x8 =>
    (if 16 ≤ x8 then some x7 else (X9_isIn mu6 p1 x8 : Option Bool).bind fun (r11 : Bool) => ((if (b2i r11) = 0 then some 0 else (X9_parentOf mu6 p1 x8 : Option Int32).bind fun (r20 : Int32) => (X9_parentOf mu6 p2 x8 : Option Int32).bind fun (r21 : Int32) => (if r20 = r21 then (X9_placeOf mu6 p1 x8 : Option Int32).bind fun (r22 : Int32) => (X9_placeOf mu6 p2 x8 : Option Int32).bind fun (r23 : Int32) => (if r22 = r23 then some 1 else some 0) else some 0)) : Option Int32).bind fun (x12 : Int32) => ((if x12 = 0 then some 0 else (X9_nameOf mu6 p1 x8 : Option Int32).bind fun (r16 : Int32) => (X9_nameOf mu6 p2 x8 : Option Int32).bind fun (r17 : Int32) => (if r16 = r17 then (X9_textOf mu6 p1 x8 : Option Int32).bind fun (r18 : Int32) => (X9_textOf mu6 p2 x8 : Option Int32).bind fun (r19 : Int32) => (if r18 = r19 then some 1 else some 0) else some 0)) : Option Int32).bind fun (x14 : Int32) => X9_alike_L28 p1 p2 mu6 n28 (x7 + x14) (x8 + 1))
def X9_alike (u : Mem) (p1 : Int32) (p2 : Int32) : Option (Int32 × Mem) :=
  bd2 (X9_isAsked u p1) fun (r1 : Bool) (mu2 : Mem) => (if (b2i r1) = 0 then bd2 (X9_refuse mu2 (-2)) fun (r3 : Int32) (mu4 : Mem) => some (r3, mu4) else bd2 (X9_isAsked mu2 p2) fun (r5 : Bool) (mu6 : Mem) => (if (b2i r5) = 0 then bd2 (X9_refuse mu6 (-2)) fun (r24 : Int32) (mu25 : Mem) => some (r24, mu25) else (X9_alike_L28 p1 p2 mu6 fu 0 0 : Option Int32).bind fun (x9 : Int32) => some (x9, mu6)))
set_option maxHeartbeats 4000000 in
set_option maxRecDepth 100000 in
theorem c_X9_alike {l : Launch} {D : va_G} {A : Nat → Nat} {cI cZ cD : ClassId} {u u1 : Mem} {p1 : Int32} {p2 : Int32} {r : Int32}  (hE : X9_alike u p1 p2 = some (r, u1)) : Ct l yX9_alike cX9_alike 6 (some .int) (rmOf 5 117) D (tyL cI cZ cD) [.ref (A 0), .int p1, .int p2] (wY A cI u) (some (.int r)) (wY A cI u1) := by
  refine Ct.ofW (by decide +kernel) (fun p e s m below meth c hC hI => ?_)
  obtain ⟨hx, hb, hml, hown, hr, hlk, hG⟩ := hC
  have hown : s.vm.findClass RX9 = some m.cls := hown
  have hl := lv_entry ([.ref (A 0), .int p1, .int p2] : List Value) (n := 6) (Nat.le_of_ble_eq_true rfl)
  rw [lg_entry_eq]
  generalize (lg_sl ([.ref (A 0), .int p1, .int p2] : List Value) ++ List.replicate (6 - (lg_sl ([.ref (A 0), .int p1, .int p2] : List Value)).length) Slot.unset).toArray = ls at hl ⊢
  have hl : lv_has ls 6 [(0, .ref (A 0)), (1, .int p1), (2, .int p2)] := hl
  unfold X9_alike at hE
  refine lv_aload_n hx hb dX9_alike_0 rfl (lv_at hl 0 rfl) ?_
  refine lv_iload_n hx hb dX9_alike_1 rfl (lv_at hl 1 rfl) ?_
  obtain ⟨r1, mu2, hc, hE⟩ := bd2_some hE
  refine xc_V1 (rest := []) (c_X9_isAsked hc) mw_X9_isAsked km_X9_183 hx hb hml hown hG hI xA_of (wG_atE (by omega) eY_0) rfl rfl ⟨Nat.le_of_ble_eq_true rfl, Nat.le_of_ble_eq_true rfl⟩ rfl hl.1 rfl (Nat.le_of_ble_eq_true rfl) dX9_alike_2 (fun H locs hI => ?_)
  refine lv_if_eq (tgt := 16) hx hb dX9_alike_5 (by decide) (fun c5 => ?_) (fun c5 => ?_)
  · rw [if_pos c5] at hE
    refine lv_aload_n hx hb dX9_alike_16 rfl (lv_at hl 0 rfl) ?_
    refine lv_bipush (v := (-2)) hx hb dX9_alike_17 (by decide) ?_
    obtain ⟨r3, mu4, hc, hE⟩ := bd2_some hE
    refine xc_V1 (rest := []) (c_X9_refuse hc) mw_X9_refuse km_X9_60 hx hb hml hown hG hI xA_of (wG_atE (by omega) eY_0) rfl rfl ⟨Nat.le_of_ble_eq_true rfl, Nat.le_of_ble_eq_true rfl⟩ rfl hl.1 rfl (Nat.le_of_ble_eq_true rfl) dX9_alike_19 (fun H locs hI => ?_)
    obtain ⟨rfl, rfl⟩ := sm2 hE
    exact xr_i hx hb hr hlk hG hI dX9_alike_22
  · rw [if_neg c5] at hE
    refine lv_aload_n hx hb dX9_alike_8 rfl (lv_at hl 0 rfl) ?_
    refine lv_iload_n hx hb dX9_alike_9 rfl (lv_at hl 2 rfl) ?_
    obtain ⟨r5, mu6, hc, hE⟩ := bd2_some hE
    refine xc_V1 (rest := []) (c_X9_isAsked hc) mw_X9_isAsked km_X9_183 hx hb hml hown hG hI xA_of (wG_atE (by omega) eY_0) rfl rfl ⟨Nat.le_of_ble_eq_true rfl, Nat.le_of_ble_eq_true rfl⟩ rfl hl.1 rfl (Nat.le_of_ble_eq_true rfl) dX9_alike_10 (fun H locs hI => ?_)
    refine lv_if_ne (tgt := 23) hx hb dX9_alike_13 (by decide) (fun c13 => ?_) (fun c13 => ?_)
    · rw [if_neg c13] at hE
      refine lv_iconst (v := 0) hx hb dX9_alike_23 (by decide) ?_
      refine lv_istore_n (lv' := [(3, .int 0), (0, .ref (A 0)), (1, .int p1), (2, .int p2)]) hx hb dX9_alike_24 rfl hl (by decide) rfl (fun ls hl => ?_)
      refine lv_iconst (v := 0) hx hb dX9_alike_25 (by decide) ?_
      refine lv_istore (lv' := [(4, .int 0), (3, .int 0), (0, .ref (A 0)), (1, .int p1), (2, .int p2)]) hx hb dX9_alike_26 hl (by decide) rfl (fun ls hl => ?_)
      obtain ⟨x9, hZ, hE⟩ := bd1_some hE
      have hX28_9 : ∀ (H : Heap) (locs : List Loc) (ls : Array Slot), xI D (va_A (wY A cI u) s.heap.size) s.heap (wY A cI mu6) H locs → lv_has ls 6 [(3, .int x9)] → W p l e (rmOf 5 117) s m ([.ref (A 0), .int p1, .int p2] : List Value).toArray below meth c H locs 0 0 (xQ D (tyL cI cZ cD) below ([.ref (A 0), .int p1, .int p2] : List Value).toArray s (wY A cI u) (some (.int r)) (wY A cI u1)) (F0 m 139 ls []) := by
        intro H locs ls hI hl
        clear hZ
        refine lv_iload_n hx hb dX9_alike_139 rfl (lv_at hl 0 rfl) ?_
        obtain ⟨rfl, rfl⟩ := sm2 hE
        exact xr_i hx hb hr hlk hG hI dX9_alike_140
      replace hE := hZ
      clear hZ
      have hL28 : ∀ (n28 : Nat) (x7 : Int32) (x8 : Int32) (H : Heap) (locs : List Loc) (ls : Array Slot), X9_alike_L28 p1 p2 mu6 n28 x7 x8 = some x9 → xI D (va_A (wY A cI u) s.heap.size) s.heap (wY A cI mu6) H locs → lv_has ls 6 [(0, .ref (A 0)), (1, .int p1), (2, .int p2), (3, .int x7), (4, .int x8)] → W p l e (rmOf 5 117) s m ([.ref (A 0), .int p1, .int p2] : List Value).toArray below meth c H locs 0 0 (xQ D (tyL cI cZ cD) below ([.ref (A 0), .int p1, .int p2] : List Value).toArray s (wY A cI u) (some (.int r)) (wY A cI u1)) (F0 m 28 ls []) := by
        intro n28
        induction n28 with
        | zero =>
          intro x7 x8 H locs ls hE
          exact absurd hE (by simp [X9_alike_L28])
        | succ n28 ih28 =>
          intro x7 x8 H locs ls hE hI hl
          rw [X9_alike_L28] at hE
          refine lv_iload hx hb dX9_alike_28 (lv_at hl 4 rfl) ?_
          refine lv_bipush (v := 16) hx hb dX9_alike_30 (by decide) ?_
          refine lv_icmp_ge (tgt := 139) hx hb dX9_alike_32 (by decide) (fun c32 => ?_) (fun c32 => ?_)
          · rw [if_pos c32] at hE
            obtain rfl := sm1 hE
            exact hX28_9 _ _ _ hI (lv_sub hl [3] rfl)
          · rw [if_neg c32] at hE
            refine lv_aload_n hx hb dX9_alike_35 rfl (lv_at hl 0 rfl) ?_
            refine lv_iload_n hx hb dX9_alike_36 rfl (lv_at hl 1 rfl) ?_
            refine lv_iload hx hb dX9_alike_37 (lv_at hl 4 rfl) ?_
            obtain ⟨r11, hc, hE⟩ := bd1_some hE
            refine xc_V1 (rest := []) (c_X9_isIn hc) mw_X9_isIn km_X9_72 hx hb hml hown hG hI xA_of (wG_atE (by omega) eY_0) rfl rfl ⟨Nat.le_of_ble_eq_true rfl, Nat.le_of_ble_eq_true rfl⟩ rfl hl.1 rfl (Nat.le_of_ble_eq_true rfl) dX9_alike_39 (fun H locs hI => ?_)
            obtain ⟨x12, hZ, hE⟩ := bd1_some hE
            have hJ84_12 : ∀ (H : Heap) (locs : List Loc) (ls : Array Slot), xI D (va_A (wY A cI u) s.heap.size) s.heap (wY A cI mu6) H locs → lv_has ls 6 [(0, .ref (A 0)), (1, .int p1), (2, .int p2), (3, .int x7), (4, .int x8)] → W p l e (rmOf 5 117) s m ([.ref (A 0), .int p1, .int p2] : List Value).toArray below meth c H locs 0 0 (xQ D (tyL cI cZ cD) below ([.ref (A 0), .int p1, .int p2] : List Value).toArray s (wY A cI u) (some (.int r)) (wY A cI u1)) (F0 m 84 ls [.int x12]) := by
              intro H locs ls hI hl
              clear hZ
              refine lv_istore (lv' := [(5, .int x12), (0, .ref (A 0)), (1, .int p1), (2, .int p2), (3, .int x7), (4, .int x8)]) hx hb dX9_alike_84 hl (by decide) rfl (fun ls hl => ?_)
              refine lv_iload_n hx hb dX9_alike_86 rfl (lv_at hl 4 rfl) ?_
              refine lv_iload hx hb dX9_alike_87 (lv_at hl 0 rfl) ?_
              obtain ⟨x14, hZ, hE⟩ := bd1_some hE
              have hJ131_14 : ∀ (H : Heap) (locs : List Loc) (ls : Array Slot), xI D (va_A (wY A cI u) s.heap.size) s.heap (wY A cI mu6) H locs → lv_has ls 6 [(0, .ref (A 0)), (1, .int p1), (2, .int p2), (4, .int x8)] → W p l e (rmOf 5 117) s m ([.ref (A 0), .int p1, .int p2] : List Value).toArray below meth c H locs 0 0 (xQ D (tyL cI cZ cD) below ([.ref (A 0), .int p1, .int p2] : List Value).toArray s (wY A cI u) (some (.int r)) (wY A cI u1)) (F0 m 131 ls [.int x14, .int x7]) := by
                intro H locs ls hI hl
                clear hZ
                refine lv_iadd hx hb dX9_alike_131 ?_
                refine lv_istore_n (lv' := [(3, .int (x7 + x14)), (0, .ref (A 0)), (1, .int p1), (2, .int p2), (4, .int x8)]) hx hb dX9_alike_132 rfl hl (by decide) rfl (fun ls hl => ?_)
                refine lv_iinc (v := x8 + 1) (lv' := [(4, .int (x8 + 1)), (3, .int (x7 + x14)), (0, .ref (A 0)), (1, .int p1), (2, .int p2)]) hx hb dX9_alike_133 hl (k := 4) rfl rfl (by decide) rfl (fun ls hl => ?_)
                refine lv_goto (tgt := 28) hx hb dX9_alike_136 (by decide) ?_
                exact ih28 _ _ _ _ _ hE hI (lv_sub hl [2, 3, 4, 1, 0] rfl)
              replace hE := hZ
              clear hZ
              refine lv_if_eq (tgt := 130) hx hb dX9_alike_89 (by decide) (fun c89 => ?_) (fun c89 => ?_)
              · rw [if_pos c89] at hE
                refine lv_iconst (v := 0) hx hb dX9_alike_130 (by decide) ?_
                obtain rfl := sm1 hE
                exact hJ131_14 _ _ _ hI (lv_sub hl [1, 2, 3, 5] rfl)
              · rw [if_neg c89] at hE
                refine lv_aload_n hx hb dX9_alike_92 rfl (lv_at hl 1 rfl) ?_
                refine lv_iload_n hx hb dX9_alike_93 rfl (lv_at hl 2 rfl) ?_
                refine lv_iload hx hb dX9_alike_94 (lv_at hl 5 rfl) ?_
                obtain ⟨r16, hc, hE⟩ := bd1_some hE
                refine xc_V1 (rest := [.int x7]) (c_X9_nameOf hc) mw_X9_nameOf km_X9_148 hx hb hml hown hG hI xA_of (wG_atE (by omega) eY_0) rfl rfl ⟨Nat.le_of_ble_eq_true rfl, Nat.le_of_ble_eq_true rfl⟩ rfl hl.1 rfl (Nat.le_of_ble_eq_true rfl) dX9_alike_96 (fun H locs hI => ?_)
                refine lv_aload_n hx hb dX9_alike_99 rfl (lv_at hl 1 rfl) ?_
                refine lv_iload_n hx hb dX9_alike_100 rfl (lv_at hl 3 rfl) ?_
                refine lv_iload hx hb dX9_alike_101 (lv_at hl 5 rfl) ?_
                obtain ⟨r17, hc, hE⟩ := bd1_some hE
                refine xc_V1 (rest := [.int r16, .int x7]) (c_X9_nameOf hc) mw_X9_nameOf km_X9_148 hx hb hml hown hG hI xA_of (wG_atE (by omega) eY_0) rfl rfl ⟨Nat.le_of_ble_eq_true rfl, Nat.le_of_ble_eq_true rfl⟩ rfl hl.1 rfl (Nat.le_of_ble_eq_true rfl) dX9_alike_103 (fun H locs hI => ?_)
                refine lv_icmp_ne (tgt := 130) hx hb dX9_alike_106 (by decide) (fun c106 => ?_) (fun c106 => ?_)
                · rw [if_neg c106] at hE
                  refine lv_iconst (v := 0) hx hb dX9_alike_130 (by decide) ?_
                  obtain rfl := sm1 hE
                  exact hJ131_14 _ _ _ hI (lv_sub hl [1, 2, 3, 5] rfl)
                · rw [if_pos c106] at hE
                  refine lv_aload_n hx hb dX9_alike_109 rfl (lv_at hl 1 rfl) ?_
                  refine lv_iload_n hx hb dX9_alike_110 rfl (lv_at hl 2 rfl) ?_
                  refine lv_iload hx hb dX9_alike_111 (lv_at hl 5 rfl) ?_
                  obtain ⟨r18, hc, hE⟩ := bd1_some hE
                  refine xc_V1 (rest := [.int x7]) (c_X9_textOf hc) mw_X9_textOf km_X9_151 hx hb hml hown hG hI xA_of (wG_atE (by omega) eY_0) rfl rfl ⟨Nat.le_of_ble_eq_true rfl, Nat.le_of_ble_eq_true rfl⟩ rfl hl.1 rfl (Nat.le_of_ble_eq_true rfl) dX9_alike_113 (fun H locs hI => ?_)
                  refine lv_aload_n hx hb dX9_alike_116 rfl (lv_at hl 1 rfl) ?_
                  refine lv_iload_n hx hb dX9_alike_117 rfl (lv_at hl 3 rfl) ?_
                  refine lv_iload hx hb dX9_alike_118 (lv_at hl 5 rfl) ?_
                  obtain ⟨r19, hc, hE⟩ := bd1_some hE
                  refine xc_V1 (rest := [.int r18, .int x7]) (c_X9_textOf hc) mw_X9_textOf km_X9_151 hx hb hml hown hG hI xA_of (wG_atE (by omega) eY_0) rfl rfl ⟨Nat.le_of_ble_eq_true rfl, Nat.le_of_ble_eq_true rfl⟩ rfl hl.1 rfl (Nat.le_of_ble_eq_true rfl) dX9_alike_120 (fun H locs hI => ?_)
                  refine lv_icmp_ne (tgt := 130) hx hb dX9_alike_123 (by decide) (fun c123 => ?_) (fun c123 => ?_)
                  · rw [if_neg c123] at hE
                    refine lv_iconst (v := 0) hx hb dX9_alike_130 (by decide) ?_
                    obtain rfl := sm1 hE
                    exact hJ131_14 _ _ _ hI (lv_sub hl [1, 2, 3, 5] rfl)
                  · rw [if_pos c123] at hE
                    refine lv_iconst (v := 1) hx hb dX9_alike_126 (by decide) ?_
                    refine lv_goto (tgt := 131) hx hb dX9_alike_127 (by decide) ?_
                    obtain rfl := sm1 hE
                    exact hJ131_14 _ _ _ hI (lv_sub hl [1, 2, 3, 5] rfl)
            replace hE := hZ
            clear hZ
            refine lv_if_eq (tgt := 83) hx hb dX9_alike_42 (by decide) (fun c42 => ?_) (fun c42 => ?_)
            · rw [if_pos c42] at hE
              refine lv_iconst (v := 0) hx hb dX9_alike_83 (by decide) ?_
              obtain rfl := sm1 hE
              exact hJ84_12 _ _ _ hI (lv_sub hl [0, 1, 2, 3, 4] rfl)
            · rw [if_neg c42] at hE
              refine lv_aload_n hx hb dX9_alike_45 rfl (lv_at hl 0 rfl) ?_
              refine lv_iload_n hx hb dX9_alike_46 rfl (lv_at hl 1 rfl) ?_
              refine lv_iload hx hb dX9_alike_47 (lv_at hl 4 rfl) ?_
              obtain ⟨r20, hc, hE⟩ := bd1_some hE
              refine xc_V1 (rest := []) (c_X9_parentOf hc) mw_X9_parentOf km_X9_76 hx hb hml hown hG hI xA_of (wG_atE (by omega) eY_0) rfl rfl ⟨Nat.le_of_ble_eq_true rfl, Nat.le_of_ble_eq_true rfl⟩ rfl hl.1 rfl (Nat.le_of_ble_eq_true rfl) dX9_alike_49 (fun H locs hI => ?_)
              refine lv_aload_n hx hb dX9_alike_52 rfl (lv_at hl 0 rfl) ?_
              refine lv_iload_n hx hb dX9_alike_53 rfl (lv_at hl 2 rfl) ?_
              refine lv_iload hx hb dX9_alike_54 (lv_at hl 4 rfl) ?_
              obtain ⟨r21, hc, hE⟩ := bd1_some hE
              refine xc_V1 (rest := [.int r20]) (c_X9_parentOf hc) mw_X9_parentOf km_X9_76 hx hb hml hown hG hI xA_of (wG_atE (by omega) eY_0) rfl rfl ⟨Nat.le_of_ble_eq_true rfl, Nat.le_of_ble_eq_true rfl⟩ rfl hl.1 rfl (Nat.le_of_ble_eq_true rfl) dX9_alike_56 (fun H locs hI => ?_)
              refine lv_icmp_ne (tgt := 83) hx hb dX9_alike_59 (by decide) (fun c59 => ?_) (fun c59 => ?_)
              · rw [if_neg c59] at hE
                refine lv_iconst (v := 0) hx hb dX9_alike_83 (by decide) ?_
                obtain rfl := sm1 hE
                exact hJ84_12 _ _ _ hI (lv_sub hl [0, 1, 2, 3, 4] rfl)
              · rw [if_pos c59] at hE
                refine lv_aload_n hx hb dX9_alike_62 rfl (lv_at hl 0 rfl) ?_
                refine lv_iload_n hx hb dX9_alike_63 rfl (lv_at hl 1 rfl) ?_
                refine lv_iload hx hb dX9_alike_64 (lv_at hl 4 rfl) ?_
                obtain ⟨r22, hc, hE⟩ := bd1_some hE
                refine xc_V1 (rest := []) (c_X9_placeOf hc) mw_X9_placeOf km_X9_80 hx hb hml hown hG hI xA_of (wG_atE (by omega) eY_0) rfl rfl ⟨Nat.le_of_ble_eq_true rfl, Nat.le_of_ble_eq_true rfl⟩ rfl hl.1 rfl (Nat.le_of_ble_eq_true rfl) dX9_alike_66 (fun H locs hI => ?_)
                refine lv_aload_n hx hb dX9_alike_69 rfl (lv_at hl 0 rfl) ?_
                refine lv_iload_n hx hb dX9_alike_70 rfl (lv_at hl 2 rfl) ?_
                refine lv_iload hx hb dX9_alike_71 (lv_at hl 4 rfl) ?_
                obtain ⟨r23, hc, hE⟩ := bd1_some hE
                refine xc_V1 (rest := [.int r22]) (c_X9_placeOf hc) mw_X9_placeOf km_X9_80 hx hb hml hown hG hI xA_of (wG_atE (by omega) eY_0) rfl rfl ⟨Nat.le_of_ble_eq_true rfl, Nat.le_of_ble_eq_true rfl⟩ rfl hl.1 rfl (Nat.le_of_ble_eq_true rfl) dX9_alike_73 (fun H locs hI => ?_)
                refine lv_icmp_ne (tgt := 83) hx hb dX9_alike_76 (by decide) (fun c76 => ?_) (fun c76 => ?_)
                · rw [if_neg c76] at hE
                  refine lv_iconst (v := 0) hx hb dX9_alike_83 (by decide) ?_
                  obtain rfl := sm1 hE
                  exact hJ84_12 _ _ _ hI (lv_sub hl [0, 1, 2, 3, 4] rfl)
                · rw [if_pos c76] at hE
                  refine lv_iconst (v := 1) hx hb dX9_alike_79 (by decide) ?_
                  refine lv_goto (tgt := 84) hx hb dX9_alike_80 (by decide) ?_
                  obtain rfl := sm1 hE
                  exact hJ84_12 _ _ _ hI (lv_sub hl [0, 1, 2, 3, 4] rfl)
      exact hL28 _ _ _ _ _ _ hE hI (lv_sub hl [2, 3, 4, 1, 0] rfl)
    · rw [if_pos c13] at hE
      refine lv_aload_n hx hb dX9_alike_16 rfl (lv_at hl 0 rfl) ?_
      refine lv_bipush (v := (-2)) hx hb dX9_alike_17 (by decide) ?_
      obtain ⟨r24, mu25, hc, hE⟩ := bd2_some hE
      refine xc_V1 (rest := []) (c_X9_refuse hc) mw_X9_refuse km_X9_60 hx hb hml hown hG hI xA_of (wG_atE (by omega) eY_0) rfl rfl ⟨Nat.le_of_ble_eq_true rfl, Nat.le_of_ble_eq_true rfl⟩ rfl hl.1 rfl (Nat.le_of_ble_eq_true rfl) dX9_alike_19 (fun H locs hI => ?_)
      obtain ⟨rfl, rfl⟩ := sm2 hE
      exact xr_i hx hb hr hlk hG hI dX9_alike_22
def X9_conflicts (u : Mem) (p1 : Int32) (p2 : Int32) : Option (Int32 × Mem) :=
  (if p1 < (-1) then bd2 (X9_refuse u (-2)) fun (r1 : Int32) (mu2 : Mem) => some (r1, mu2) else ((if p1 = (-1) then some 0 else some 2) : Option Int32).bind fun (x3 : Int32) => (X9_in p2 0 x3 : Option Bool).bind fun (r5 : Bool) => (if (b2i r5) = 0 then bd2 (X9_refuse u (-2)) fun (r8 : Int32) (mu9 : Mem) => some (r8, mu9) else (X9_merge u : Option Mem).bind fun (mu6 : Mem) => (if p1 = (-1) then some (mu6 0 13, mu6) else (if (mu6 0 13) ≤ p1 then some ((-5), mu6) else (rd 480 (mu6 10) ((3 * p1) + p2)).bind fun v7 => some (v7, mu6)))))
set_option maxHeartbeats 4000000 in
set_option maxRecDepth 100000 in
theorem c_X9_conflicts {l : Launch} {D : va_G} {A : Nat → Nat} {cI cZ cD : ClassId} {u u1 : Mem} {p1 : Int32} {p2 : Int32} {r : Int32}  (hE : X9_conflicts u p1 p2 = some (r, u1)) : Ct l yX9_conflicts cX9_conflicts 3 (some .int) (rmOf 4 96) D (tyL cI cZ cD) [.ref (A 0), .int p1, .int p2] (wY A cI u) (some (.int r)) (wY A cI u1) := by
  refine Ct.ofW (by decide +kernel) (fun p e s m below meth c hC hI => ?_)
  obtain ⟨hx, hb, hml, hown, hr, hlk, hG⟩ := hC
  have hown : s.vm.findClass RX9 = some m.cls := hown
  have hl := lv_entry ([.ref (A 0), .int p1, .int p2] : List Value) (n := 3) (Nat.le_of_ble_eq_true rfl)
  rw [lg_entry_eq]
  generalize (lg_sl ([.ref (A 0), .int p1, .int p2] : List Value) ++ List.replicate (3 - (lg_sl ([.ref (A 0), .int p1, .int p2] : List Value)).length) Slot.unset).toArray = ls at hl ⊢
  have hl : lv_has ls 3 [(0, .ref (A 0)), (1, .int p1), (2, .int p2)] := hl
  unfold X9_conflicts at hE
  refine lv_iload_n hx hb dX9_conflicts_0 rfl (lv_at hl 1 rfl) ?_
  refine lv_iconst (v := (-1)) hx hb dX9_conflicts_1 (by decide) ?_
  refine lv_icmp_lt (tgt := 23) hx hb dX9_conflicts_2 (by decide) (fun c2 => ?_) (fun c2 => ?_)
  · rw [if_pos c2] at hE
    refine lv_aload_n hx hb dX9_conflicts_23 rfl (lv_at hl 0 rfl) ?_
    refine lv_bipush (v := (-2)) hx hb dX9_conflicts_24 (by decide) ?_
    obtain ⟨r1, mu2, hc, hE⟩ := bd2_some hE
    refine xc_V1 (rest := []) (c_X9_refuse hc) mw_X9_refuse km_X9_60 hx hb hml hown hG hI xA_of (wG_atE (by omega) eY_0) rfl rfl ⟨Nat.le_of_ble_eq_true rfl, Nat.le_of_ble_eq_true rfl⟩ rfl hl.1 rfl (Nat.le_of_ble_eq_true rfl) dX9_conflicts_26 (fun H locs hI => ?_)
    obtain ⟨rfl, rfl⟩ := sm2 hE
    exact xr_i hx hb hr hlk hG hI dX9_conflicts_29
  · rw [if_neg c2] at hE
    refine lv_iload_n hx hb dX9_conflicts_5 rfl (lv_at hl 2 rfl) ?_
    refine lv_iconst (v := 0) hx hb dX9_conflicts_6 (by decide) ?_
    refine lv_iload_n hx hb dX9_conflicts_7 rfl (lv_at hl 1 rfl) ?_
    refine lv_iconst (v := (-1)) hx hb dX9_conflicts_8 (by decide) ?_
    obtain ⟨x3, hZ, hE⟩ := bd1_some hE
    have hJ17_3 : ∀ (H : Heap) (locs : List Loc) (ls : Array Slot), xI D (va_A (wY A cI u) s.heap.size) s.heap (wY A cI u) H locs → lv_has ls 3 [(0, .ref (A 0)), (1, .int p1), (2, .int p2)] → W p l e (rmOf 4 96) s m ([.ref (A 0), .int p1, .int p2] : List Value).toArray below meth c H locs 0 0 (xQ D (tyL cI cZ cD) below ([.ref (A 0), .int p1, .int p2] : List Value).toArray s (wY A cI u) (some (.int r)) (wY A cI u1)) (F0 m 17 ls [.int x3, .int 0, .int p2]) := by
      intro H locs ls hI hl
      clear hZ
      obtain ⟨r5, hc, hE⟩ := bd1_some hE
      refine xc_S1 (rest := []) (c_X9_in hc) mw_X9_in km_X9_68 hx hb hml hown hG hI xA_of ⟨Nat.le_of_ble_eq_true rfl, Nat.le_of_ble_eq_true rfl⟩ rfl hl.1 rfl (Nat.le_of_ble_eq_true rfl) dX9_conflicts_17 (fun H locs hI => ?_)
      refine lv_if_ne (tgt := 30) hx hb dX9_conflicts_20 (by decide) (fun c20 => ?_) (fun c20 => ?_)
      · rw [if_neg c20] at hE
        refine lv_aload_n hx hb dX9_conflicts_30 rfl (lv_at hl 0 rfl) ?_
        obtain ⟨mu6, hc, hE⟩ := bd1_some hE
        refine xc_V0 (rest := []) (c_X9_merge hc) mw_X9_merge km_X9_142 hx hb hml hown hG hI xA_of (wG_atE (by omega) eY_0) rfl rfl ⟨Nat.le_of_ble_eq_true rfl, Nat.le_of_ble_eq_true rfl⟩ rfl hl.1 rfl (Nat.le_of_ble_eq_true rfl) dX9_conflicts_31 (fun H locs hI => ?_)
        refine lv_iload_n hx hb dX9_conflicts_34 rfl (lv_at hl 1 rfl) ?_
        refine lv_iconst (v := (-1)) hx hb dX9_conflicts_35 (by decide) ?_
        refine lv_icmp_ne (tgt := 46) hx hb dX9_conflicts_36 (by decide) (fun c36 => ?_) (fun c36 => ?_)
        · rw [if_neg c36] at hE
          refine lv_iload_n hx hb dX9_conflicts_46 rfl (lv_at hl 1 rfl) ?_
          refine lv_aload_n hx hb dX9_conflicts_47 rfl (lv_at hl 0 rfl) ?_
          refine xg_get (C := RX9) (T := TX9) (M := 22) hx hb hown hG hI (by omega) eY_0 rfl inX9 13 (by decide) kf_X9_145 rfl dX9_conflicts_48 ?_
          refine lv_icmp_ge (tgt := 67) hx hb dX9_conflicts_51 (by decide) (fun c51 => ?_) (fun c51 => ?_)
          · rw [if_pos c51] at hE
            refine lv_bipush (v := (-5)) hx hb dX9_conflicts_67 (by decide) ?_
            obtain ⟨rfl, rfl⟩ := sm2 hE
            exact xr_i hx hb hr hlk hG hI dX9_conflicts_69
          · rw [if_neg c51] at hE
            refine lv_aload_n hx hb dX9_conflicts_54 rfl (lv_at hl 0 rfl) ?_
            refine xg_get (C := RX9) (T := TX9) (M := 22) hx hb hown hG hI (by omega) eY_0 rfl inX9 12 (by decide) kf_X9_37 rfl dX9_conflicts_55 ?_
            refine lv_iconst (v := 3) hx hb dX9_conflicts_58 (by decide) ?_
            refine lv_iload_n hx hb dX9_conflicts_59 rfl (lv_at hl 1 rfl) ?_
            refine lv_imul hx hb dX9_conflicts_60 ?_
            refine lv_iload_n hx hb dX9_conflicts_61 rfl (lv_at hl 2 rfl) ?_
            refine lv_iadd hx hb dX9_conflicts_62 ?_
            obtain ⟨v7, hv, hE⟩ := bd1_some hE
            refine xg_iald 0 hx hb hG hI (by omega) eY_10 rfl hv dX9_conflicts_63 ?_
            refine lv_goto (tgt := 69) hx hb dX9_conflicts_64 (by decide) ?_
            obtain ⟨rfl, rfl⟩ := sm2 hE
            exact xr_i hx hb hr hlk hG hI dX9_conflicts_69
        · rw [if_pos c36] at hE
          refine lv_aload_n hx hb dX9_conflicts_39 rfl (lv_at hl 0 rfl) ?_
          refine xg_get (C := RX9) (T := TX9) (M := 22) hx hb hown hG hI (by omega) eY_0 rfl inX9 13 (by decide) kf_X9_145 rfl dX9_conflicts_40 ?_
          refine lv_goto (tgt := 69) hx hb dX9_conflicts_43 (by decide) ?_
          obtain ⟨rfl, rfl⟩ := sm2 hE
          exact xr_i hx hb hr hlk hG hI dX9_conflicts_69
      · rw [if_pos c20] at hE
        refine lv_aload_n hx hb dX9_conflicts_23 rfl (lv_at hl 0 rfl) ?_
        refine lv_bipush (v := (-2)) hx hb dX9_conflicts_24 (by decide) ?_
        obtain ⟨r8, mu9, hc, hE⟩ := bd2_some hE
        refine xc_V1 (rest := []) (c_X9_refuse hc) mw_X9_refuse km_X9_60 hx hb hml hown hG hI xA_of (wG_atE (by omega) eY_0) rfl rfl ⟨Nat.le_of_ble_eq_true rfl, Nat.le_of_ble_eq_true rfl⟩ rfl hl.1 rfl (Nat.le_of_ble_eq_true rfl) dX9_conflicts_26 (fun H locs hI => ?_)
        obtain ⟨rfl, rfl⟩ := sm2 hE
        exact xr_i hx hb hr hlk hG hI dX9_conflicts_29
    replace hE := hZ
    clear hZ
    refine lv_icmp_ne (tgt := 16) hx hb dX9_conflicts_9 (by decide) (fun c9 => ?_) (fun c9 => ?_)
    · rw [if_neg c9] at hE
      refine lv_iconst (v := 2) hx hb dX9_conflicts_16 (by decide) ?_
      obtain rfl := sm1 hE
      exact hJ17_3 _ _ _ hI (lv_sub hl [0, 1, 2] rfl)
    · rw [if_pos c9] at hE
      refine lv_iconst (v := 0) hx hb dX9_conflicts_12 (by decide) ?_
      refine lv_goto (tgt := 17) hx hb dX9_conflicts_13 (by decide) ?_
      obtain rfl := sm1 hE
      exact hJ17_3 _ _ _ hI (lv_sub hl [0, 1, 2] rfl)
def X9_step (u : Mem) (p1 : Int32) (p2 : Int32) : Option (Mem) :=
  (stI 96 u 13 (2 * (u 0 17)) p1).bind fun mu1 => (stI 96 mu1 13 ((2 * (mu1 0 17)) + 1) p2).bind fun mu2 => (stF mu2 0 17 ((mu2 0 17) + 1)).bind fun mu3 => some mu3
set_option maxHeartbeats 4000000 in
set_option maxRecDepth 100000 in
theorem c_X9_step {l : Launch} {D : va_G} {A : Nat → Nat} {cI cZ cD : ClassId} {u u1 : Mem} {p1 : Int32} {p2 : Int32}  (hE : X9_step u p1 p2 = some (u1)) : Ct l yX9_step cX9_step 3 none (rmOf 0 0) D (tyL cI cZ cD) [.ref (A 0), .int p1, .int p2] (wY A cI u) none (wY A cI u1) := by
  refine Ct.ofW (by decide +kernel) (fun p e s m below meth c hC hI => ?_)
  obtain ⟨hx, hb, hml, hown, hr, hlk, hG⟩ := hC
  have hown : s.vm.findClass RX9 = some m.cls := hown
  have hl := lv_entry ([.ref (A 0), .int p1, .int p2] : List Value) (n := 3) (Nat.le_of_ble_eq_true rfl)
  rw [lg_entry_eq]
  generalize (lg_sl ([.ref (A 0), .int p1, .int p2] : List Value) ++ List.replicate (3 - (lg_sl ([.ref (A 0), .int p1, .int p2] : List Value)).length) Slot.unset).toArray = ls at hl ⊢
  have hl : lv_has ls 3 [(0, .ref (A 0)), (1, .int p1), (2, .int p2)] := hl
  unfold X9_step at hE
  refine lv_aload_n hx hb dX9_step_0 rfl (lv_at hl 0 rfl) ?_
  refine xg_get (C := RX9) (T := TX9) (M := 22) hx hb hown hG hI (by omega) eY_0 rfl inX9 16 (by decide) kf_X9_46 rfl dX9_step_1 ?_
  refine lv_iconst (v := 2) hx hb dX9_step_4 (by decide) ?_
  refine lv_aload_n hx hb dX9_step_5 rfl (lv_at hl 0 rfl) ?_
  refine xg_get (C := RX9) (T := TX9) (M := 22) hx hb hown hG hI (by omega) eY_0 rfl inX9 17 (by decide) kf_X9_196 rfl dX9_step_6 ?_
  refine lv_imul hx hb dX9_step_9 ?_
  refine lv_iload_n hx hb dX9_step_10 rfl (lv_at hl 1 rfl) ?_
  obtain ⟨mu1, hv, hE⟩ := bd1_some hE
  refine xg_iast 0 hx hb hG hI (by omega) eY_13 rfl hv dX9_step_11 (fun H locs hI => ?_)
  refine lv_aload_n hx hb dX9_step_12 rfl (lv_at hl 0 rfl) ?_
  refine xg_get (C := RX9) (T := TX9) (M := 22) hx hb hown hG hI (by omega) eY_0 rfl inX9 16 (by decide) kf_X9_46 rfl dX9_step_13 ?_
  refine lv_iconst (v := 2) hx hb dX9_step_16 (by decide) ?_
  refine lv_aload_n hx hb dX9_step_17 rfl (lv_at hl 0 rfl) ?_
  refine xg_get (C := RX9) (T := TX9) (M := 22) hx hb hown hG hI (by omega) eY_0 rfl inX9 17 (by decide) kf_X9_196 rfl dX9_step_18 ?_
  refine lv_imul hx hb dX9_step_21 ?_
  refine lv_iconst (v := 1) hx hb dX9_step_22 (by decide) ?_
  refine lv_iadd hx hb dX9_step_23 ?_
  refine lv_iload_n hx hb dX9_step_24 rfl (lv_at hl 2 rfl) ?_
  obtain ⟨mu2, hv, hE⟩ := bd1_some hE
  refine xg_iast 0 hx hb hG hI (by omega) eY_13 rfl hv dX9_step_25 (fun H locs hI => ?_)
  refine lv_aload_n hx hb dX9_step_26 rfl (lv_at hl 0 rfl) ?_
  refine lv_dup hx hb dX9_step_27 rfl ?_
  refine xg_get (C := RX9) (T := TX9) (M := 22) hx hb hown hG hI (by omega) eY_0 rfl inX9 17 (by decide) kf_X9_196 rfl dX9_step_28 ?_
  refine lv_iconst (v := 1) hx hb dX9_step_31 (by decide) ?_
  refine lv_iadd hx hb dX9_step_32 ?_
  obtain ⟨mu3, hu, hE⟩ := bd1_some hE
  refine xg_put (C := RX9) (T := TX9) (M := 22) hx hb hown hG hI (by omega) eY_0 rfl inX9 tyX9 tyX9_ok nmX9 17 (by decide) kf_X9_196 rfl (ty := .int) (by decide +kernel) rfl rfl (Nat.le_of_ble_eq_true rfl) rfl hu dX9_step_33 (fun H locs hI => ?_)
  obtain rfl := sm1 hE
  exact xr_v hx hb hr hlk hG hI dX9_step_36
def X9_layScript_L7 (p1 : Int32) : Nat → Int32 → Mem → Option (Mem)
  | 0, _, _ => none
  | n7 + 1, x2, mu3 =>
    (if 16 ≤ x2 then some mu3 else (X9_isIn mu3 0 x2 : Option Bool).bind fun (r6 : Bool) => (X9_isIn mu3 p1 x2 : Option Bool).bind fun (r7 : Bool) => (if (b2i r6) = (b2i r7) then (if (b2i r6) = 0 then X9_layScript_L7 p1 n7 (x2 + 1) mu3 else (X9_parentOf mu3 0 x2 : Option Int32).bind fun (r8 : Int32) => (X9_parentOf mu3 p1 x2 : Option Int32).bind fun (r9 : Int32) => ((if r8 = r9 then some mu3 else (X9_step mu3 3 x2 : Option Mem).bind fun (mu20 : Mem) => some mu20) : Option Mem).bind fun (mu10 : Mem) => (X9_nameOf mu10 0 x2 : Option Int32).bind fun (r12 : Int32) => (X9_nameOf mu10 p1 x2 : Option Int32).bind fun (r13 : Int32) => ((if r12 = r13 then some mu10 else (X9_step mu10 4 x2 : Option Mem).bind fun (mu19 : Mem) => some mu19) : Option Mem).bind fun (mu14 : Mem) => (X9_textOf mu14 0 x2 : Option Int32).bind fun (r16 : Int32) => (X9_textOf mu14 p1 x2 : Option Int32).bind fun (r17 : Int32) => (if r16 = r17 then X9_layScript_L7 p1 n7 (x2 + 1) mu14 else (X9_step mu14 5 x2 : Option Mem).bind fun (mu18 : Mem) => X9_layScript_L7 p1 n7 (x2 + 1) mu18)) else ((if (b2i r7) = 0 then some 2 else some 1) : Option Int32).bind fun (x21 : Int32) => (X9_step mu3 x21 x2 : Option Mem).bind fun (mu23 : Mem) => X9_layScript_L7 p1 n7 (x2 + 1) mu23))
def X9_layScript (u : Mem) (p1 : Int32) : Option (Mem) :=
  (stF u 0 17 0).bind fun mu1 => (X9_layScript_L7 p1 fu 0 mu1 : Option Mem).bind fun (mu4 : Mem) => some mu4
set_option maxHeartbeats 4000000 in
set_option maxRecDepth 100000 in
theorem c_X9_layScript {l : Launch} {D : va_G} {A : Nat → Nat} {cI cZ cD : ClassId} {u u1 : Mem} {p1 : Int32}  (hE : X9_layScript u p1 = some (u1)) : Ct l yX9_layScript cX9_layScript 5 none (rmOf 1 22) D (tyL cI cZ cD) [.ref (A 0), .int p1] (wY A cI u) none (wY A cI u1) := by
  refine Ct.ofW (by decide +kernel) (fun p e s m below meth c hC hI => ?_)
  obtain ⟨hx, hb, hml, hown, hr, hlk, hG⟩ := hC
  have hown : s.vm.findClass RX9 = some m.cls := hown
  have hl := lv_entry ([.ref (A 0), .int p1] : List Value) (n := 5) (Nat.le_of_ble_eq_true rfl)
  rw [lg_entry_eq]
  generalize (lg_sl ([.ref (A 0), .int p1] : List Value) ++ List.replicate (5 - (lg_sl ([.ref (A 0), .int p1] : List Value)).length) Slot.unset).toArray = ls at hl ⊢
  have hl : lv_has ls 5 [(0, .ref (A 0)), (1, .int p1)] := hl
  unfold X9_layScript at hE
  refine lv_aload_n hx hb dX9_layScript_0 rfl (lv_at hl 0 rfl) ?_
  refine lv_iconst (v := 0) hx hb dX9_layScript_1 (by decide) ?_
  obtain ⟨mu1, hu, hE⟩ := bd1_some hE
  refine xg_put (C := RX9) (T := TX9) (M := 22) hx hb hown hG hI (by omega) eY_0 rfl inX9 tyX9 tyX9_ok nmX9 17 (by decide) kf_X9_196 rfl (ty := .int) (by decide +kernel) rfl rfl (Nat.le_of_ble_eq_true rfl) rfl hu dX9_layScript_2 (fun H locs hI => ?_)
  refine lv_iconst (v := 0) hx hb dX9_layScript_5 (by decide) ?_
  refine lv_istore_n (lv' := [(2, .int 0), (0, .ref (A 0)), (1, .int p1)]) hx hb dX9_layScript_6 rfl hl (by decide) rfl (fun ls hl => ?_)
  obtain ⟨mu4, hZ, hE⟩ := bd1_some hE
  have hX7_4 : ∀ (H : Heap) (locs : List Loc) (ls : Array Slot), xI D (va_A (wY A cI u) s.heap.size) s.heap (wY A cI mu4) H locs → lv_has ls 5 [] → W p l e (rmOf 1 22) s m ([.ref (A 0), .int p1] : List Value).toArray below meth c H locs 0 0 (xQ D (tyL cI cZ cD) below ([.ref (A 0), .int p1] : List Value).toArray s (wY A cI u) none (wY A cI u1)) (F0 m 125 ls []) := by
    intro H locs ls hI hl
    clear hZ
    obtain rfl := sm1 hE
    exact xr_v hx hb hr hlk hG hI dX9_layScript_125
  replace hE := hZ
  clear hZ
  have hL7 : ∀ (n7 : Nat) (x2 : Int32) (mu3 : Mem) (H : Heap) (locs : List Loc) (ls : Array Slot), X9_layScript_L7 p1 n7 x2 mu3 = some mu4 → xI D (va_A (wY A cI u) s.heap.size) s.heap (wY A cI mu3) H locs → lv_has ls 5 [(0, .ref (A 0)), (1, .int p1), (2, .int x2)] → W p l e (rmOf 1 22) s m ([.ref (A 0), .int p1] : List Value).toArray below meth c H locs 0 0 (xQ D (tyL cI cZ cD) below ([.ref (A 0), .int p1] : List Value).toArray s (wY A cI u) none (wY A cI u1)) (F0 m 7 ls []) := by
    intro n7
    induction n7 with
    | zero =>
      intro x2 mu3 H locs ls hE
      exact absurd hE (by simp [X9_layScript_L7])
    | succ n7 ih7 =>
      intro x2 mu3 H locs ls hE hI hl
      rw [X9_layScript_L7] at hE
      refine lv_iload_n hx hb dX9_layScript_7 rfl (lv_at hl 2 rfl) ?_
      refine lv_bipush (v := 16) hx hb dX9_layScript_8 (by decide) ?_
      refine lv_icmp_ge (tgt := 125) hx hb dX9_layScript_10 (by decide) (fun c10 => ?_) (fun c10 => ?_)
      · rw [if_pos c10] at hE
        obtain rfl := sm1 hE
        exact hX7_4 _ _ _ hI (lv_sub hl [] rfl)
      · rw [if_neg c10] at hE
        refine lv_aload_n hx hb dX9_layScript_13 rfl (lv_at hl 0 rfl) ?_
        refine lv_iconst (v := 0) hx hb dX9_layScript_14 (by decide) ?_
        refine lv_iload_n hx hb dX9_layScript_15 rfl (lv_at hl 2 rfl) ?_
        obtain ⟨r6, hc, hE⟩ := bd1_some hE
        refine xc_V1 (rest := []) (c_X9_isIn hc) mw_X9_isIn km_X9_72 hx hb hml hown hG hI xA_of (wG_atE (by omega) eY_0) rfl rfl ⟨Nat.le_of_ble_eq_true rfl, Nat.le_of_ble_eq_true rfl⟩ rfl hl.1 rfl (Nat.le_of_ble_eq_true rfl) dX9_layScript_16 (fun H locs hI => ?_)
        refine lv_istore_n (lv' := [(3, .int (b2i r6)), (0, .ref (A 0)), (1, .int p1), (2, .int x2)]) hx hb dX9_layScript_19 rfl hl (by decide) rfl (fun ls hl => ?_)
        refine lv_aload_n hx hb dX9_layScript_20 rfl (lv_at hl 1 rfl) ?_
        refine lv_iload_n hx hb dX9_layScript_21 rfl (lv_at hl 2 rfl) ?_
        refine lv_iload_n hx hb dX9_layScript_22 rfl (lv_at hl 3 rfl) ?_
        obtain ⟨r7, hc, hE⟩ := bd1_some hE
        refine xc_V1 (rest := []) (c_X9_isIn hc) mw_X9_isIn km_X9_72 hx hb hml hown hG hI xA_of (wG_atE (by omega) eY_0) rfl rfl ⟨Nat.le_of_ble_eq_true rfl, Nat.le_of_ble_eq_true rfl⟩ rfl hl.1 rfl (Nat.le_of_ble_eq_true rfl) dX9_layScript_23 (fun H locs hI => ?_)
        refine lv_istore (lv' := [(4, .int (b2i r7)), (3, .int (b2i r6)), (0, .ref (A 0)), (1, .int p1), (2, .int x2)]) hx hb dX9_layScript_26 hl (by decide) rfl (fun ls hl => ?_)
        refine lv_iload_n hx hb dX9_layScript_28 rfl (lv_at hl 1 rfl) ?_
        refine lv_iload hx hb dX9_layScript_29 (lv_at hl 0 rfl) ?_
        refine lv_icmp_eq (tgt := 52) hx hb dX9_layScript_31 (by decide) (fun c31 => ?_) (fun c31 => ?_)
        · rw [if_pos c31] at hE
          refine lv_iload_n hx hb dX9_layScript_52 rfl (lv_at hl 1 rfl) ?_
          refine lv_if_eq (tgt := 119) hx hb dX9_layScript_53 (by decide) (fun c53 => ?_) (fun c53 => ?_)
          · rw [if_pos c53] at hE
            refine lv_iinc (v := x2 + 1) (lv' := [(2, .int (x2 + 1)), (4, .int (b2i r7)), (3, .int (b2i r6)), (0, .ref (A 0)), (1, .int p1)]) hx hb dX9_layScript_119 hl (k := 4) rfl rfl (by decide) rfl (fun ls hl => ?_)
            refine lv_goto (tgt := 7) hx hb dX9_layScript_122 (by decide) ?_
            exact ih7 _ _ _ _ _ hE hI (lv_sub hl [3, 4, 0] rfl)
          · rw [if_neg c53] at hE
            refine lv_aload_n hx hb dX9_layScript_56 rfl (lv_at hl 2 rfl) ?_
            refine lv_iconst (v := 0) hx hb dX9_layScript_57 (by decide) ?_
            refine lv_iload_n hx hb dX9_layScript_58 rfl (lv_at hl 4 rfl) ?_
            obtain ⟨r8, hc, hE⟩ := bd1_some hE
            refine xc_V1 (rest := []) (c_X9_parentOf hc) mw_X9_parentOf km_X9_76 hx hb hml hown hG hI xA_of (wG_atE (by omega) eY_0) rfl rfl ⟨Nat.le_of_ble_eq_true rfl, Nat.le_of_ble_eq_true rfl⟩ rfl hl.1 rfl (Nat.le_of_ble_eq_true rfl) dX9_layScript_59 (fun H locs hI => ?_)
            refine lv_aload_n hx hb dX9_layScript_62 rfl (lv_at hl 2 rfl) ?_
            refine lv_iload_n hx hb dX9_layScript_63 rfl (lv_at hl 3 rfl) ?_
            refine lv_iload_n hx hb dX9_layScript_64 rfl (lv_at hl 4 rfl) ?_
            obtain ⟨r9, hc, hE⟩ := bd1_some hE
            refine xc_V1 (rest := [.int r8]) (c_X9_parentOf hc) mw_X9_parentOf km_X9_76 hx hb hml hown hG hI xA_of (wG_atE (by omega) eY_0) rfl rfl ⟨Nat.le_of_ble_eq_true rfl, Nat.le_of_ble_eq_true rfl⟩ rfl hl.1 rfl (Nat.le_of_ble_eq_true rfl) dX9_layScript_65 (fun H locs hI => ?_)
            obtain ⟨mu10, hZ, hE⟩ := bd1_some hE
            have hJ77_10 : ∀ (H : Heap) (locs : List Loc) (ls : Array Slot), xI D (va_A (wY A cI u) s.heap.size) s.heap (wY A cI mu10) H locs → lv_has ls 5 [(0, .ref (A 0)), (1, .int p1), (2, .int x2)] → W p l e (rmOf 1 22) s m ([.ref (A 0), .int p1] : List Value).toArray below meth c H locs 0 0 (xQ D (tyL cI cZ cD) below ([.ref (A 0), .int p1] : List Value).toArray s (wY A cI u) none (wY A cI u1)) (F0 m 77 ls []) := by
              intro H locs ls hI hl
              clear hZ
              refine lv_aload_n hx hb dX9_layScript_77 rfl (lv_at hl 0 rfl) ?_
              refine lv_iconst (v := 0) hx hb dX9_layScript_78 (by decide) ?_
              refine lv_iload_n hx hb dX9_layScript_79 rfl (lv_at hl 2 rfl) ?_
              obtain ⟨r12, hc, hE⟩ := bd1_some hE
              refine xc_V1 (rest := []) (c_X9_nameOf hc) mw_X9_nameOf km_X9_148 hx hb hml hown hG hI xA_of (wG_atE (by omega) eY_0) rfl rfl ⟨Nat.le_of_ble_eq_true rfl, Nat.le_of_ble_eq_true rfl⟩ rfl hl.1 rfl (Nat.le_of_ble_eq_true rfl) dX9_layScript_80 (fun H locs hI => ?_)
              refine lv_aload_n hx hb dX9_layScript_83 rfl (lv_at hl 0 rfl) ?_
              refine lv_iload_n hx hb dX9_layScript_84 rfl (lv_at hl 1 rfl) ?_
              refine lv_iload_n hx hb dX9_layScript_85 rfl (lv_at hl 2 rfl) ?_
              obtain ⟨r13, hc, hE⟩ := bd1_some hE
              refine xc_V1 (rest := [.int r12]) (c_X9_nameOf hc) mw_X9_nameOf km_X9_148 hx hb hml hown hG hI xA_of (wG_atE (by omega) eY_0) rfl rfl ⟨Nat.le_of_ble_eq_true rfl, Nat.le_of_ble_eq_true rfl⟩ rfl hl.1 rfl (Nat.le_of_ble_eq_true rfl) dX9_layScript_86 (fun H locs hI => ?_)
              obtain ⟨mu14, hZ, hE⟩ := bd1_some hE
              have hJ98_14 : ∀ (H : Heap) (locs : List Loc) (ls : Array Slot), xI D (va_A (wY A cI u) s.heap.size) s.heap (wY A cI mu14) H locs → lv_has ls 5 [(0, .ref (A 0)), (1, .int p1), (2, .int x2)] → W p l e (rmOf 1 22) s m ([.ref (A 0), .int p1] : List Value).toArray below meth c H locs 0 0 (xQ D (tyL cI cZ cD) below ([.ref (A 0), .int p1] : List Value).toArray s (wY A cI u) none (wY A cI u1)) (F0 m 98 ls []) := by
                intro H locs ls hI hl
                clear hZ
                refine lv_aload_n hx hb dX9_layScript_98 rfl (lv_at hl 0 rfl) ?_
                refine lv_iconst (v := 0) hx hb dX9_layScript_99 (by decide) ?_
                refine lv_iload_n hx hb dX9_layScript_100 rfl (lv_at hl 2 rfl) ?_
                obtain ⟨r16, hc, hE⟩ := bd1_some hE
                refine xc_V1 (rest := []) (c_X9_textOf hc) mw_X9_textOf km_X9_151 hx hb hml hown hG hI xA_of (wG_atE (by omega) eY_0) rfl rfl ⟨Nat.le_of_ble_eq_true rfl, Nat.le_of_ble_eq_true rfl⟩ rfl hl.1 rfl (Nat.le_of_ble_eq_true rfl) dX9_layScript_101 (fun H locs hI => ?_)
                refine lv_aload_n hx hb dX9_layScript_104 rfl (lv_at hl 0 rfl) ?_
                refine lv_iload_n hx hb dX9_layScript_105 rfl (lv_at hl 1 rfl) ?_
                refine lv_iload_n hx hb dX9_layScript_106 rfl (lv_at hl 2 rfl) ?_
                obtain ⟨r17, hc, hE⟩ := bd1_some hE
                refine xc_V1 (rest := [.int r16]) (c_X9_textOf hc) mw_X9_textOf km_X9_151 hx hb hml hown hG hI xA_of (wG_atE (by omega) eY_0) rfl rfl ⟨Nat.le_of_ble_eq_true rfl, Nat.le_of_ble_eq_true rfl⟩ rfl hl.1 rfl (Nat.le_of_ble_eq_true rfl) dX9_layScript_107 (fun H locs hI => ?_)
                refine lv_icmp_eq (tgt := 119) hx hb dX9_layScript_110 (by decide) (fun c110 => ?_) (fun c110 => ?_)
                · rw [if_pos c110] at hE
                  refine lv_iinc (v := x2 + 1) (lv' := [(2, .int (x2 + 1)), (0, .ref (A 0)), (1, .int p1)]) hx hb dX9_layScript_119 hl (k := 2) rfl rfl (by decide) rfl (fun ls hl => ?_)
                  refine lv_goto (tgt := 7) hx hb dX9_layScript_122 (by decide) ?_
                  exact ih7 _ _ _ _ _ hE hI (lv_sub hl [1, 2, 0] rfl)
                · rw [if_neg c110] at hE
                  refine lv_aload_n hx hb dX9_layScript_113 rfl (lv_at hl 0 rfl) ?_
                  refine lv_iconst (v := 5) hx hb dX9_layScript_114 (by decide) ?_
                  refine lv_iload_n hx hb dX9_layScript_115 rfl (lv_at hl 2 rfl) ?_
                  obtain ⟨mu18, hc, hE⟩ := bd1_some hE
                  refine xc_V0 (rest := []) (c_X9_step hc) mw_X9_step km_X9_199 hx hb hml hown hG hI xA_of (wG_atE (by omega) eY_0) rfl rfl ⟨Nat.le_of_ble_eq_true rfl, Nat.le_of_ble_eq_true rfl⟩ rfl hl.1 rfl (Nat.le_of_ble_eq_true rfl) dX9_layScript_116 (fun H locs hI => ?_)
                  refine lv_iinc (v := x2 + 1) (lv' := [(2, .int (x2 + 1)), (0, .ref (A 0)), (1, .int p1)]) hx hb dX9_layScript_119 hl (k := 2) rfl rfl (by decide) rfl (fun ls hl => ?_)
                  refine lv_goto (tgt := 7) hx hb dX9_layScript_122 (by decide) ?_
                  exact ih7 _ _ _ _ _ hE hI (lv_sub hl [1, 2, 0] rfl)
              replace hE := hZ
              clear hZ
              refine lv_icmp_eq (tgt := 98) hx hb dX9_layScript_89 (by decide) (fun c89 => ?_) (fun c89 => ?_)
              · rw [if_pos c89] at hE
                obtain rfl := sm1 hE
                exact hJ98_14 _ _ _ hI (lv_sub hl [0, 1, 2] rfl)
              · rw [if_neg c89] at hE
                refine lv_aload_n hx hb dX9_layScript_92 rfl (lv_at hl 0 rfl) ?_
                refine lv_iconst (v := 4) hx hb dX9_layScript_93 (by decide) ?_
                refine lv_iload_n hx hb dX9_layScript_94 rfl (lv_at hl 2 rfl) ?_
                obtain ⟨mu19, hc, hE⟩ := bd1_some hE
                refine xc_V0 (rest := []) (c_X9_step hc) mw_X9_step km_X9_199 hx hb hml hown hG hI xA_of (wG_atE (by omega) eY_0) rfl rfl ⟨Nat.le_of_ble_eq_true rfl, Nat.le_of_ble_eq_true rfl⟩ rfl hl.1 rfl (Nat.le_of_ble_eq_true rfl) dX9_layScript_95 (fun H locs hI => ?_)
                obtain rfl := sm1 hE
                exact hJ98_14 _ _ _ hI (lv_sub hl [0, 1, 2] rfl)
            replace hE := hZ
            clear hZ
            refine lv_icmp_eq (tgt := 77) hx hb dX9_layScript_68 (by decide) (fun c68 => ?_) (fun c68 => ?_)
            · rw [if_pos c68] at hE
              obtain rfl := sm1 hE
              exact hJ77_10 _ _ _ hI (lv_sub hl [2, 3, 4] rfl)
            · rw [if_neg c68] at hE
              refine lv_aload_n hx hb dX9_layScript_71 rfl (lv_at hl 2 rfl) ?_
              refine lv_iconst (v := 3) hx hb dX9_layScript_72 (by decide) ?_
              refine lv_iload_n hx hb dX9_layScript_73 rfl (lv_at hl 4 rfl) ?_
              obtain ⟨mu20, hc, hE⟩ := bd1_some hE
              refine xc_V0 (rest := []) (c_X9_step hc) mw_X9_step km_X9_199 hx hb hml hown hG hI xA_of (wG_atE (by omega) eY_0) rfl rfl ⟨Nat.le_of_ble_eq_true rfl, Nat.le_of_ble_eq_true rfl⟩ rfl hl.1 rfl (Nat.le_of_ble_eq_true rfl) dX9_layScript_74 (fun H locs hI => ?_)
              obtain rfl := sm1 hE
              exact hJ77_10 _ _ _ hI (lv_sub hl [2, 3, 4] rfl)
        · rw [if_neg c31] at hE
          refine lv_aload_n hx hb dX9_layScript_34 rfl (lv_at hl 2 rfl) ?_
          refine lv_iload hx hb dX9_layScript_35 (lv_at hl 0 rfl) ?_
          obtain ⟨x21, hZ, hE⟩ := bd1_some hE
          have hJ45_21 : ∀ (H : Heap) (locs : List Loc) (ls : Array Slot), xI D (va_A (wY A cI u) s.heap.size) s.heap (wY A cI mu3) H locs → lv_has ls 5 [(0, .ref (A 0)), (1, .int p1), (2, .int x2)] → W p l e (rmOf 1 22) s m ([.ref (A 0), .int p1] : List Value).toArray below meth c H locs 0 0 (xQ D (tyL cI cZ cD) below ([.ref (A 0), .int p1] : List Value).toArray s (wY A cI u) none (wY A cI u1)) (F0 m 45 ls [.int x21, .ref (A 0)]) := by
            intro H locs ls hI hl
            clear hZ
            refine lv_iload_n hx hb dX9_layScript_45 rfl (lv_at hl 2 rfl) ?_
            obtain ⟨mu23, hc, hE⟩ := bd1_some hE
            refine xc_V0 (rest := []) (c_X9_step hc) mw_X9_step km_X9_199 hx hb hml hown hG hI xA_of (wG_atE (by omega) eY_0) rfl rfl ⟨Nat.le_of_ble_eq_true rfl, Nat.le_of_ble_eq_true rfl⟩ rfl hl.1 rfl (Nat.le_of_ble_eq_true rfl) dX9_layScript_46 (fun H locs hI => ?_)
            refine lv_goto (tgt := 119) hx hb dX9_layScript_49 (by decide) ?_
            refine lv_iinc (v := x2 + 1) (lv' := [(2, .int (x2 + 1)), (0, .ref (A 0)), (1, .int p1)]) hx hb dX9_layScript_119 hl (k := 2) rfl rfl (by decide) rfl (fun ls hl => ?_)
            refine lv_goto (tgt := 7) hx hb dX9_layScript_122 (by decide) ?_
            exact ih7 _ _ _ _ _ hE hI (lv_sub hl [1, 2, 0] rfl)
          replace hE := hZ
          clear hZ
          refine lv_if_eq (tgt := 44) hx hb dX9_layScript_37 (by decide) (fun c37 => ?_) (fun c37 => ?_)
          · rw [if_pos c37] at hE
            refine lv_iconst (v := 2) hx hb dX9_layScript_44 (by decide) ?_
            obtain rfl := sm1 hE
            exact hJ45_21 _ _ _ hI (lv_sub hl [2, 3, 4] rfl)
          · rw [if_neg c37] at hE
            refine lv_iconst (v := 1) hx hb dX9_layScript_40 (by decide) ?_
            refine lv_goto (tgt := 45) hx hb dX9_layScript_41 (by decide) ?_
            obtain rfl := sm1 hE
            exact hJ45_21 _ _ _ hI (lv_sub hl [2, 3, 4] rfl)
  exact hL7 _ _ _ _ _ _ hE hI (lv_sub hl [1, 2, 0] rfl)
def X9_script (u : Mem) (p1 : Int32) (p2 : Int32) (p3 : Int32) : Option (Int32 × Mem) :=
  (X9_in p1 1 2 : Option Bool).bind fun (r1 : Bool) => (if (b2i r1) = 0 then bd2 (X9_refuse u (-2)) fun (r2 : Int32) (mu3 : Mem) => some (r2, mu3) else (if p2 < (-1) then bd2 (X9_refuse u (-2)) fun (r4 : Int32) (mu5 : Mem) => some (r4, mu5) else ((if p2 = (-1) then some 0 else some 1) : Option Int32).bind fun (x6 : Int32) => (X9_in p3 0 x6 : Option Bool).bind fun (r8 : Bool) => (if (b2i r8) = 0 then bd2 (X9_refuse u (-2)) fun (r11 : Int32) (mu12 : Mem) => some (r11, mu12) else (X9_layScript u p1 : Option Mem).bind fun (mu9 : Mem) => (if p2 = (-1) then some (mu9 0 17, mu9) else (if (mu9 0 17) ≤ p2 then some ((-5), mu9) else (rd 96 (mu9 13) ((2 * p2) + p3)).bind fun v10 => some (v10, mu9))))))
set_option maxHeartbeats 4000000 in
set_option maxRecDepth 100000 in
theorem c_X9_script {l : Launch} {D : va_G} {A : Nat → Nat} {cI cZ cD : ClassId} {u u1 : Mem} {p1 : Int32} {p2 : Int32} {p3 : Int32} {r : Int32}  (hE : X9_script u p1 p2 p3 = some (r, u1)) : Ct l yX9_script cX9_script 4 (some .int) (rmOf 2 46) D (tyL cI cZ cD) [.ref (A 0), .int p1, .int p2, .int p3] (wY A cI u) (some (.int r)) (wY A cI u1) := by
  refine Ct.ofW (by decide +kernel) (fun p e s m below meth c hC hI => ?_)
  obtain ⟨hx, hb, hml, hown, hr, hlk, hG⟩ := hC
  have hown : s.vm.findClass RX9 = some m.cls := hown
  have hl := lv_entry ([.ref (A 0), .int p1, .int p2, .int p3] : List Value) (n := 4) (Nat.le_of_ble_eq_true rfl)
  rw [lg_entry_eq]
  generalize (lg_sl ([.ref (A 0), .int p1, .int p2, .int p3] : List Value) ++ List.replicate (4 - (lg_sl ([.ref (A 0), .int p1, .int p2, .int p3] : List Value)).length) Slot.unset).toArray = ls at hl ⊢
  have hl : lv_has ls 4 [(0, .ref (A 0)), (1, .int p1), (2, .int p2), (3, .int p3)] := hl
  unfold X9_script at hE
  refine lv_iload_n hx hb dX9_script_0 rfl (lv_at hl 1 rfl) ?_
  refine lv_iconst (v := 1) hx hb dX9_script_1 (by decide) ?_
  refine lv_iconst (v := 2) hx hb dX9_script_2 (by decide) ?_
  obtain ⟨r1, hc, hE⟩ := bd1_some hE
  refine xc_S1 (rest := []) (c_X9_in hc) mw_X9_in km_X9_68 hx hb hml hown hG hI xA_of ⟨Nat.le_of_ble_eq_true rfl, Nat.le_of_ble_eq_true rfl⟩ rfl hl.1 rfl (Nat.le_of_ble_eq_true rfl) dX9_script_3 (fun H locs hI => ?_)
  refine lv_if_eq (tgt := 32) hx hb dX9_script_6 (by decide) (fun c6 => ?_) (fun c6 => ?_)
  · rw [if_pos c6] at hE
    refine lv_aload_n hx hb dX9_script_32 rfl (lv_at hl 0 rfl) ?_
    refine lv_bipush (v := (-2)) hx hb dX9_script_33 (by decide) ?_
    obtain ⟨r2, mu3, hc, hE⟩ := bd2_some hE
    refine xc_V1 (rest := []) (c_X9_refuse hc) mw_X9_refuse km_X9_60 hx hb hml hown hG hI xA_of (wG_atE (by omega) eY_0) rfl rfl ⟨Nat.le_of_ble_eq_true rfl, Nat.le_of_ble_eq_true rfl⟩ rfl hl.1 rfl (Nat.le_of_ble_eq_true rfl) dX9_script_35 (fun H locs hI => ?_)
    obtain ⟨rfl, rfl⟩ := sm2 hE
    exact xr_i hx hb hr hlk hG hI dX9_script_38
  · rw [if_neg c6] at hE
    refine lv_iload_n hx hb dX9_script_9 rfl (lv_at hl 2 rfl) ?_
    refine lv_iconst (v := (-1)) hx hb dX9_script_10 (by decide) ?_
    refine lv_icmp_lt (tgt := 32) hx hb dX9_script_11 (by decide) (fun c11 => ?_) (fun c11 => ?_)
    · rw [if_pos c11] at hE
      refine lv_aload_n hx hb dX9_script_32 rfl (lv_at hl 0 rfl) ?_
      refine lv_bipush (v := (-2)) hx hb dX9_script_33 (by decide) ?_
      obtain ⟨r4, mu5, hc, hE⟩ := bd2_some hE
      refine xc_V1 (rest := []) (c_X9_refuse hc) mw_X9_refuse km_X9_60 hx hb hml hown hG hI xA_of (wG_atE (by omega) eY_0) rfl rfl ⟨Nat.le_of_ble_eq_true rfl, Nat.le_of_ble_eq_true rfl⟩ rfl hl.1 rfl (Nat.le_of_ble_eq_true rfl) dX9_script_35 (fun H locs hI => ?_)
      obtain ⟨rfl, rfl⟩ := sm2 hE
      exact xr_i hx hb hr hlk hG hI dX9_script_38
    · rw [if_neg c11] at hE
      refine lv_iload_n hx hb dX9_script_14 rfl (lv_at hl 3 rfl) ?_
      refine lv_iconst (v := 0) hx hb dX9_script_15 (by decide) ?_
      refine lv_iload_n hx hb dX9_script_16 rfl (lv_at hl 2 rfl) ?_
      refine lv_iconst (v := (-1)) hx hb dX9_script_17 (by decide) ?_
      obtain ⟨x6, hZ, hE⟩ := bd1_some hE
      have hJ26_6 : ∀ (H : Heap) (locs : List Loc) (ls : Array Slot), xI D (va_A (wY A cI u) s.heap.size) s.heap (wY A cI u) H locs → lv_has ls 4 [(0, .ref (A 0)), (1, .int p1), (2, .int p2), (3, .int p3)] → W p l e (rmOf 2 46) s m ([.ref (A 0), .int p1, .int p2, .int p3] : List Value).toArray below meth c H locs 0 0 (xQ D (tyL cI cZ cD) below ([.ref (A 0), .int p1, .int p2, .int p3] : List Value).toArray s (wY A cI u) (some (.int r)) (wY A cI u1)) (F0 m 26 ls [.int x6, .int 0, .int p3]) := by
        intro H locs ls hI hl
        clear hZ
        obtain ⟨r8, hc, hE⟩ := bd1_some hE
        refine xc_S1 (rest := []) (c_X9_in hc) mw_X9_in km_X9_68 hx hb hml hown hG hI xA_of ⟨Nat.le_of_ble_eq_true rfl, Nat.le_of_ble_eq_true rfl⟩ rfl hl.1 rfl (Nat.le_of_ble_eq_true rfl) dX9_script_26 (fun H locs hI => ?_)
        refine lv_if_ne (tgt := 39) hx hb dX9_script_29 (by decide) (fun c29 => ?_) (fun c29 => ?_)
        · rw [if_neg c29] at hE
          refine lv_aload_n hx hb dX9_script_39 rfl (lv_at hl 0 rfl) ?_
          refine lv_iload_n hx hb dX9_script_40 rfl (lv_at hl 1 rfl) ?_
          obtain ⟨mu9, hc, hE⟩ := bd1_some hE
          refine xc_V0 (rest := []) (c_X9_layScript hc) mw_X9_layScript km_X9_202 hx hb hml hown hG hI xA_of (wG_atE (by omega) eY_0) rfl rfl ⟨Nat.le_of_ble_eq_true rfl, Nat.le_of_ble_eq_true rfl⟩ rfl hl.1 rfl (Nat.le_of_ble_eq_true rfl) dX9_script_41 (fun H locs hI => ?_)
          refine lv_iload_n hx hb dX9_script_44 rfl (lv_at hl 2 rfl) ?_
          refine lv_iconst (v := (-1)) hx hb dX9_script_45 (by decide) ?_
          refine lv_icmp_ne (tgt := 56) hx hb dX9_script_46 (by decide) (fun c46 => ?_) (fun c46 => ?_)
          · rw [if_neg c46] at hE
            refine lv_iload_n hx hb dX9_script_56 rfl (lv_at hl 2 rfl) ?_
            refine lv_aload_n hx hb dX9_script_57 rfl (lv_at hl 0 rfl) ?_
            refine xg_get (C := RX9) (T := TX9) (M := 22) hx hb hown hG hI (by omega) eY_0 rfl inX9 17 (by decide) kf_X9_196 rfl dX9_script_58 ?_
            refine lv_icmp_ge (tgt := 77) hx hb dX9_script_61 (by decide) (fun c61 => ?_) (fun c61 => ?_)
            · rw [if_pos c61] at hE
              refine lv_bipush (v := (-5)) hx hb dX9_script_77 (by decide) ?_
              obtain ⟨rfl, rfl⟩ := sm2 hE
              exact xr_i hx hb hr hlk hG hI dX9_script_79
            · rw [if_neg c61] at hE
              refine lv_aload_n hx hb dX9_script_64 rfl (lv_at hl 0 rfl) ?_
              refine xg_get (C := RX9) (T := TX9) (M := 22) hx hb hown hG hI (by omega) eY_0 rfl inX9 16 (by decide) kf_X9_46 rfl dX9_script_65 ?_
              refine lv_iconst (v := 2) hx hb dX9_script_68 (by decide) ?_
              refine lv_iload_n hx hb dX9_script_69 rfl (lv_at hl 2 rfl) ?_
              refine lv_imul hx hb dX9_script_70 ?_
              refine lv_iload_n hx hb dX9_script_71 rfl (lv_at hl 3 rfl) ?_
              refine lv_iadd hx hb dX9_script_72 ?_
              obtain ⟨v10, hv, hE⟩ := bd1_some hE
              refine xg_iald 0 hx hb hG hI (by omega) eY_13 rfl hv dX9_script_73 ?_
              refine lv_goto (tgt := 79) hx hb dX9_script_74 (by decide) ?_
              obtain ⟨rfl, rfl⟩ := sm2 hE
              exact xr_i hx hb hr hlk hG hI dX9_script_79
          · rw [if_pos c46] at hE
            refine lv_aload_n hx hb dX9_script_49 rfl (lv_at hl 0 rfl) ?_
            refine xg_get (C := RX9) (T := TX9) (M := 22) hx hb hown hG hI (by omega) eY_0 rfl inX9 17 (by decide) kf_X9_196 rfl dX9_script_50 ?_
            refine lv_goto (tgt := 79) hx hb dX9_script_53 (by decide) ?_
            obtain ⟨rfl, rfl⟩ := sm2 hE
            exact xr_i hx hb hr hlk hG hI dX9_script_79
        · rw [if_pos c29] at hE
          refine lv_aload_n hx hb dX9_script_32 rfl (lv_at hl 0 rfl) ?_
          refine lv_bipush (v := (-2)) hx hb dX9_script_33 (by decide) ?_
          obtain ⟨r11, mu12, hc, hE⟩ := bd2_some hE
          refine xc_V1 (rest := []) (c_X9_refuse hc) mw_X9_refuse km_X9_60 hx hb hml hown hG hI xA_of (wG_atE (by omega) eY_0) rfl rfl ⟨Nat.le_of_ble_eq_true rfl, Nat.le_of_ble_eq_true rfl⟩ rfl hl.1 rfl (Nat.le_of_ble_eq_true rfl) dX9_script_35 (fun H locs hI => ?_)
          obtain ⟨rfl, rfl⟩ := sm2 hE
          exact xr_i hx hb hr hlk hG hI dX9_script_38
      replace hE := hZ
      clear hZ
      refine lv_icmp_ne (tgt := 25) hx hb dX9_script_18 (by decide) (fun c18 => ?_) (fun c18 => ?_)
      · rw [if_neg c18] at hE
        refine lv_iconst (v := 1) hx hb dX9_script_25 (by decide) ?_
        obtain rfl := sm1 hE
        exact hJ26_6 _ _ _ hI (lv_sub hl [0, 1, 2, 3] rfl)
      · rw [if_pos c18] at hE
        refine lv_iconst (v := 0) hx hb dX9_script_21 (by decide) ?_
        refine lv_goto (tgt := 26) hx hb dX9_script_22 (by decide) ?_
        obtain rfl := sm1 hE
        exact hJ26_6 _ _ _ hI (lv_sub hl [0, 1, 2, 3] rfl)
def X9_scoreOf (u : Mem) (p1 : Int32) (p2 : Int32) (p3 : Int32) : Option (Int32) :=
  (X9_nameOf u 0 p2 : Option Int32).bind fun (r1 : Int32) => (X9_nameOf u p1 p3 : Option Int32).bind fun (r2 : Int32) => ((if r1 = r2 then some 4 else some 0) : Option Int32).bind fun (x3 : Int32) => (X9_textOf u 0 p2 : Option Int32).bind fun (r5 : Int32) => (X9_textOf u p1 p3 : Option Int32).bind fun (r6 : Int32) => ((if r5 = r6 then some 2 else some 0) : Option Int32).bind fun (x7 : Int32) => (X9_parentOf u 0 p2 : Option Int32).bind fun (r9 : Int32) => (X9_nameOf u 0 r9 : Option Int32).bind fun (r10 : Int32) => (X9_parentOf u p1 p3 : Option Int32).bind fun (r11 : Int32) => (X9_nameOf u p1 r11 : Option Int32).bind fun (r12 : Int32) => ((if r10 = r12 then some 2 else some 0) : Option Int32).bind fun (x13 : Int32) => (X9_placeOf u 0 p2 : Option Int32).bind fun (r15 : Int32) => (X9_placeOf u p1 p3 : Option Int32).bind fun (r16 : Int32) => ((if r15 = r16 then some 1 else some 0) : Option Int32).bind fun (x17 : Int32) => some (((x3 + x7) + x13) + x17)
set_option maxHeartbeats 4000000 in
set_option maxRecDepth 100000 in
theorem c_X9_scoreOf {l : Launch} {D : va_G} {A : Nat → Nat} {cI cZ cD : ClassId} {u : Mem} {p1 : Int32} {p2 : Int32} {p3 : Int32} {r : Int32}  (hE : X9_scoreOf u p1 p2 p3 = some (r)) : Ct l yX9_scoreOf cX9_scoreOf 5 (some .int) (rmOf 1 22) D (tyL cI cZ cD) [.ref (A 0), .int p1, .int p2, .int p3] (wY A cI u) (some (.int r)) (wY A cI u) := by
  refine Ct.ofW (by decide +kernel) (fun p e s m below meth c hC hI => ?_)
  obtain ⟨hx, hb, hml, hown, hr, hlk, hG⟩ := hC
  have hown : s.vm.findClass RX9 = some m.cls := hown
  have hl := lv_entry ([.ref (A 0), .int p1, .int p2, .int p3] : List Value) (n := 5) (Nat.le_of_ble_eq_true rfl)
  rw [lg_entry_eq]
  generalize (lg_sl ([.ref (A 0), .int p1, .int p2, .int p3] : List Value) ++ List.replicate (5 - (lg_sl ([.ref (A 0), .int p1, .int p2, .int p3] : List Value)).length) Slot.unset).toArray = ls at hl ⊢
  have hl : lv_has ls 5 [(0, .ref (A 0)), (1, .int p1), (2, .int p2), (3, .int p3)] := hl
  unfold X9_scoreOf at hE
  refine lv_aload_n hx hb dX9_scoreOf_0 rfl (lv_at hl 0 rfl) ?_
  refine lv_iconst (v := 0) hx hb dX9_scoreOf_1 (by decide) ?_
  refine lv_iload_n hx hb dX9_scoreOf_2 rfl (lv_at hl 2 rfl) ?_
  obtain ⟨r1, hc, hE⟩ := bd1_some hE
  refine xc_V1 (rest := []) (c_X9_nameOf hc) mw_X9_nameOf km_X9_148 hx hb hml hown hG hI xA_of (wG_atE (by omega) eY_0) rfl rfl ⟨Nat.le_of_ble_eq_true rfl, Nat.le_of_ble_eq_true rfl⟩ rfl hl.1 rfl (Nat.le_of_ble_eq_true rfl) dX9_scoreOf_3 (fun H locs hI => ?_)
  refine lv_aload_n hx hb dX9_scoreOf_6 rfl (lv_at hl 0 rfl) ?_
  refine lv_iload_n hx hb dX9_scoreOf_7 rfl (lv_at hl 1 rfl) ?_
  refine lv_iload_n hx hb dX9_scoreOf_8 rfl (lv_at hl 3 rfl) ?_
  obtain ⟨r2, hc, hE⟩ := bd1_some hE
  refine xc_V1 (rest := [.int r1]) (c_X9_nameOf hc) mw_X9_nameOf km_X9_148 hx hb hml hown hG hI xA_of (wG_atE (by omega) eY_0) rfl rfl ⟨Nat.le_of_ble_eq_true rfl, Nat.le_of_ble_eq_true rfl⟩ rfl hl.1 rfl (Nat.le_of_ble_eq_true rfl) dX9_scoreOf_9 (fun H locs hI => ?_)
  obtain ⟨x3, hZ, hE⟩ := bd1_some hE
  have hJ20_3 : ∀ (H : Heap) (locs : List Loc) (ls : Array Slot), xI D (va_A (wY A cI u) s.heap.size) s.heap (wY A cI u) H locs → lv_has ls 5 [(0, .ref (A 0)), (1, .int p1), (2, .int p2), (3, .int p3)] → W p l e (rmOf 1 22) s m ([.ref (A 0), .int p1, .int p2, .int p3] : List Value).toArray below meth c H locs 0 0 (xQ D (tyL cI cZ cD) below ([.ref (A 0), .int p1, .int p2, .int p3] : List Value).toArray s (wY A cI u) (some (.int r)) (wY A cI u)) (F0 m 20 ls [.int x3]) := by
    intro H locs ls hI hl
    clear hZ
    refine lv_istore (lv' := [(4, .int x3), (0, .ref (A 0)), (1, .int p1), (2, .int p2), (3, .int p3)]) hx hb dX9_scoreOf_20 hl (by decide) rfl (fun ls hl => ?_)
    refine lv_iload hx hb dX9_scoreOf_22 (lv_at hl 0 rfl) ?_
    refine lv_aload_n hx hb dX9_scoreOf_24 rfl (lv_at hl 1 rfl) ?_
    refine lv_iconst (v := 0) hx hb dX9_scoreOf_25 (by decide) ?_
    refine lv_iload_n hx hb dX9_scoreOf_26 rfl (lv_at hl 3 rfl) ?_
    obtain ⟨r5, hc, hE⟩ := bd1_some hE
    refine xc_V1 (rest := [.int x3]) (c_X9_textOf hc) mw_X9_textOf km_X9_151 hx hb hml hown hG hI xA_of (wG_atE (by omega) eY_0) rfl rfl ⟨Nat.le_of_ble_eq_true rfl, Nat.le_of_ble_eq_true rfl⟩ rfl hl.1 rfl (Nat.le_of_ble_eq_true rfl) dX9_scoreOf_27 (fun H locs hI => ?_)
    refine lv_aload_n hx hb dX9_scoreOf_30 rfl (lv_at hl 1 rfl) ?_
    refine lv_iload_n hx hb dX9_scoreOf_31 rfl (lv_at hl 2 rfl) ?_
    refine lv_iload_n hx hb dX9_scoreOf_32 rfl (lv_at hl 4 rfl) ?_
    obtain ⟨r6, hc, hE⟩ := bd1_some hE
    refine xc_V1 (rest := [.int r5, .int x3]) (c_X9_textOf hc) mw_X9_textOf km_X9_151 hx hb hml hown hG hI xA_of (wG_atE (by omega) eY_0) rfl rfl ⟨Nat.le_of_ble_eq_true rfl, Nat.le_of_ble_eq_true rfl⟩ rfl hl.1 rfl (Nat.le_of_ble_eq_true rfl) dX9_scoreOf_33 (fun H locs hI => ?_)
    obtain ⟨x7, hZ, hE⟩ := bd1_some hE
    have hJ44_7 : ∀ (H : Heap) (locs : List Loc) (ls : Array Slot), xI D (va_A (wY A cI u) s.heap.size) s.heap (wY A cI u) H locs → lv_has ls 5 [(0, .ref (A 0)), (1, .int p1), (2, .int p2), (3, .int p3)] → W p l e (rmOf 1 22) s m ([.ref (A 0), .int p1, .int p2, .int p3] : List Value).toArray below meth c H locs 0 0 (xQ D (tyL cI cZ cD) below ([.ref (A 0), .int p1, .int p2, .int p3] : List Value).toArray s (wY A cI u) (some (.int r)) (wY A cI u)) (F0 m 44 ls [.int x7, .int x3]) := by
      intro H locs ls hI hl
      clear hZ
      refine lv_iadd hx hb dX9_scoreOf_44 ?_
      refine lv_istore (lv' := [(4, .int (x3 + x7)), (0, .ref (A 0)), (1, .int p1), (2, .int p2), (3, .int p3)]) hx hb dX9_scoreOf_45 hl (by decide) rfl (fun ls hl => ?_)
      refine lv_iload hx hb dX9_scoreOf_47 (lv_at hl 0 rfl) ?_
      refine lv_aload_n hx hb dX9_scoreOf_49 rfl (lv_at hl 1 rfl) ?_
      refine lv_iconst (v := 0) hx hb dX9_scoreOf_50 (by decide) ?_
      refine lv_aload_n hx hb dX9_scoreOf_51 rfl (lv_at hl 1 rfl) ?_
      refine lv_iconst (v := 0) hx hb dX9_scoreOf_52 (by decide) ?_
      refine lv_iload_n hx hb dX9_scoreOf_53 rfl (lv_at hl 3 rfl) ?_
      obtain ⟨r9, hc, hE⟩ := bd1_some hE
      refine xc_V1 (rest := [.int 0, .ref (A 0), .int (x3 + x7)]) (c_X9_parentOf hc) mw_X9_parentOf km_X9_76 hx hb hml hown hG hI xA_of (wG_atE (by omega) eY_0) rfl rfl ⟨Nat.le_of_ble_eq_true rfl, Nat.le_of_ble_eq_true rfl⟩ rfl hl.1 rfl (Nat.le_of_ble_eq_true rfl) dX9_scoreOf_54 (fun H locs hI => ?_)
      obtain ⟨r10, hc, hE⟩ := bd1_some hE
      refine xc_V1 (rest := [.int (x3 + x7)]) (c_X9_nameOf hc) mw_X9_nameOf km_X9_148 hx hb hml hown hG hI xA_of (wG_atE (by omega) eY_0) rfl rfl ⟨Nat.le_of_ble_eq_true rfl, Nat.le_of_ble_eq_true rfl⟩ rfl hl.1 rfl (Nat.le_of_ble_eq_true rfl) dX9_scoreOf_57 (fun H locs hI => ?_)
      refine lv_aload_n hx hb dX9_scoreOf_60 rfl (lv_at hl 1 rfl) ?_
      refine lv_iload_n hx hb dX9_scoreOf_61 rfl (lv_at hl 2 rfl) ?_
      refine lv_aload_n hx hb dX9_scoreOf_62 rfl (lv_at hl 1 rfl) ?_
      refine lv_iload_n hx hb dX9_scoreOf_63 rfl (lv_at hl 2 rfl) ?_
      refine lv_iload_n hx hb dX9_scoreOf_64 rfl (lv_at hl 4 rfl) ?_
      obtain ⟨r11, hc, hE⟩ := bd1_some hE
      refine xc_V1 (rest := [.int p1, .ref (A 0), .int r10, .int (x3 + x7)]) (c_X9_parentOf hc) mw_X9_parentOf km_X9_76 hx hb hml hown hG hI xA_of (wG_atE (by omega) eY_0) rfl rfl ⟨Nat.le_of_ble_eq_true rfl, Nat.le_of_ble_eq_true rfl⟩ rfl hl.1 rfl (Nat.le_of_ble_eq_true rfl) dX9_scoreOf_65 (fun H locs hI => ?_)
      obtain ⟨r12, hc, hE⟩ := bd1_some hE
      refine xc_V1 (rest := [.int r10, .int (x3 + x7)]) (c_X9_nameOf hc) mw_X9_nameOf km_X9_148 hx hb hml hown hG hI xA_of (wG_atE (by omega) eY_0) rfl rfl ⟨Nat.le_of_ble_eq_true rfl, Nat.le_of_ble_eq_true rfl⟩ rfl hl.1 rfl (Nat.le_of_ble_eq_true rfl) dX9_scoreOf_68 (fun H locs hI => ?_)
      obtain ⟨x13, hZ, hE⟩ := bd1_some hE
      have hJ79_13 : ∀ (H : Heap) (locs : List Loc) (ls : Array Slot), xI D (va_A (wY A cI u) s.heap.size) s.heap (wY A cI u) H locs → lv_has ls 5 [(0, .ref (A 0)), (1, .int p1), (2, .int p2), (3, .int p3)] → W p l e (rmOf 1 22) s m ([.ref (A 0), .int p1, .int p2, .int p3] : List Value).toArray below meth c H locs 0 0 (xQ D (tyL cI cZ cD) below ([.ref (A 0), .int p1, .int p2, .int p3] : List Value).toArray s (wY A cI u) (some (.int r)) (wY A cI u)) (F0 m 79 ls [.int x13, .int (x3 + x7)]) := by
        intro H locs ls hI hl
        clear hZ
        refine lv_iadd hx hb dX9_scoreOf_79 ?_
        refine lv_istore (lv' := [(4, .int ((x3 + x7) + x13)), (0, .ref (A 0)), (1, .int p1), (2, .int p2), (3, .int p3)]) hx hb dX9_scoreOf_80 hl (by decide) rfl (fun ls hl => ?_)
        refine lv_iload hx hb dX9_scoreOf_82 (lv_at hl 0 rfl) ?_
        refine lv_aload_n hx hb dX9_scoreOf_84 rfl (lv_at hl 1 rfl) ?_
        refine lv_iconst (v := 0) hx hb dX9_scoreOf_85 (by decide) ?_
        refine lv_iload_n hx hb dX9_scoreOf_86 rfl (lv_at hl 3 rfl) ?_
        obtain ⟨r15, hc, hE⟩ := bd1_some hE
        refine xc_V1 (rest := [.int ((x3 + x7) + x13)]) (c_X9_placeOf hc) mw_X9_placeOf km_X9_80 hx hb hml hown hG hI xA_of (wG_atE (by omega) eY_0) rfl rfl ⟨Nat.le_of_ble_eq_true rfl, Nat.le_of_ble_eq_true rfl⟩ rfl hl.1 rfl (Nat.le_of_ble_eq_true rfl) dX9_scoreOf_87 (fun H locs hI => ?_)
        refine lv_aload_n hx hb dX9_scoreOf_90 rfl (lv_at hl 1 rfl) ?_
        refine lv_iload_n hx hb dX9_scoreOf_91 rfl (lv_at hl 2 rfl) ?_
        refine lv_iload_n hx hb dX9_scoreOf_92 rfl (lv_at hl 4 rfl) ?_
        obtain ⟨r16, hc, hE⟩ := bd1_some hE
        refine xc_V1 (rest := [.int r15, .int ((x3 + x7) + x13)]) (c_X9_placeOf hc) mw_X9_placeOf km_X9_80 hx hb hml hown hG hI xA_of (wG_atE (by omega) eY_0) rfl rfl ⟨Nat.le_of_ble_eq_true rfl, Nat.le_of_ble_eq_true rfl⟩ rfl hl.1 rfl (Nat.le_of_ble_eq_true rfl) dX9_scoreOf_93 (fun H locs hI => ?_)
        obtain ⟨x17, hZ, hE⟩ := bd1_some hE
        have hJ104_17 : ∀ (H : Heap) (locs : List Loc) (ls : Array Slot), xI D (va_A (wY A cI u) s.heap.size) s.heap (wY A cI u) H locs → lv_has ls 5 [] → W p l e (rmOf 1 22) s m ([.ref (A 0), .int p1, .int p2, .int p3] : List Value).toArray below meth c H locs 0 0 (xQ D (tyL cI cZ cD) below ([.ref (A 0), .int p1, .int p2, .int p3] : List Value).toArray s (wY A cI u) (some (.int r)) (wY A cI u)) (F0 m 104 ls [.int x17, .int ((x3 + x7) + x13)]) := by
          intro H locs ls hI hl
          clear hZ
          refine lv_iadd hx hb dX9_scoreOf_104 ?_
          obtain rfl := sm1 hE
          exact xr_i hx hb hr hlk hG hI dX9_scoreOf_105
        replace hE := hZ
        clear hZ
        refine lv_icmp_ne (tgt := 103) hx hb dX9_scoreOf_96 (by decide) (fun c96 => ?_) (fun c96 => ?_)
        · rw [if_neg c96] at hE
          refine lv_iconst (v := 0) hx hb dX9_scoreOf_103 (by decide) ?_
          obtain rfl := sm1 hE
          exact hJ104_17 _ _ _ hI (lv_sub hl [] rfl)
        · rw [if_pos c96] at hE
          refine lv_iconst (v := 1) hx hb dX9_scoreOf_99 (by decide) ?_
          refine lv_goto (tgt := 104) hx hb dX9_scoreOf_100 (by decide) ?_
          obtain rfl := sm1 hE
          exact hJ104_17 _ _ _ hI (lv_sub hl [] rfl)
      replace hE := hZ
      clear hZ
      refine lv_icmp_ne (tgt := 78) hx hb dX9_scoreOf_71 (by decide) (fun c71 => ?_) (fun c71 => ?_)
      · rw [if_neg c71] at hE
        refine lv_iconst (v := 0) hx hb dX9_scoreOf_78 (by decide) ?_
        obtain rfl := sm1 hE
        exact hJ79_13 _ _ _ hI (lv_sub hl [1, 2, 3, 4] rfl)
      · rw [if_pos c71] at hE
        refine lv_iconst (v := 2) hx hb dX9_scoreOf_74 (by decide) ?_
        refine lv_goto (tgt := 79) hx hb dX9_scoreOf_75 (by decide) ?_
        obtain rfl := sm1 hE
        exact hJ79_13 _ _ _ hI (lv_sub hl [1, 2, 3, 4] rfl)
    replace hE := hZ
    clear hZ
    refine lv_icmp_ne (tgt := 43) hx hb dX9_scoreOf_36 (by decide) (fun c36 => ?_) (fun c36 => ?_)
    · rw [if_neg c36] at hE
      refine lv_iconst (v := 0) hx hb dX9_scoreOf_43 (by decide) ?_
      obtain rfl := sm1 hE
      exact hJ44_7 _ _ _ hI (lv_sub hl [1, 2, 3, 4] rfl)
    · rw [if_pos c36] at hE
      refine lv_iconst (v := 2) hx hb dX9_scoreOf_39 (by decide) ?_
      refine lv_goto (tgt := 44) hx hb dX9_scoreOf_40 (by decide) ?_
      obtain rfl := sm1 hE
      exact hJ44_7 _ _ _ hI (lv_sub hl [1, 2, 3, 4] rfl)
  replace hE := hZ
  clear hZ
  refine lv_icmp_ne (tgt := 19) hx hb dX9_scoreOf_12 (by decide) (fun c12 => ?_) (fun c12 => ?_)
  · rw [if_neg c12] at hE
    refine lv_iconst (v := 0) hx hb dX9_scoreOf_19 (by decide) ?_
    obtain rfl := sm1 hE
    exact hJ20_3 _ _ _ hI (lv_sub hl [0, 1, 2, 3] rfl)
  · rw [if_pos c12] at hE
    refine lv_iconst (v := 4) hx hb dX9_scoreOf_15 (by decide) ?_
    refine lv_goto (tgt := 20) hx hb dX9_scoreOf_16 (by decide) ?_
    obtain rfl := sm1 hE
    exact hJ20_3 _ _ _ hI (lv_sub hl [0, 1, 2, 3] rfl)
def X9_layMatches_L44 (p1 : Int32) (x6 : Int32) (x11 : Int32) : Nat → Int32 → Int32 → Mem → Option (Int32 × Mem)
  | 0, _, _, _ => none
  | n44 + 1, x16, x17, mu18 =>
    (if 16 ≤ x17 then some (x16, mu18) else (X9_isIn mu18 0 x11 : Option Bool).bind fun (r22 : Bool) => ((if (b2i r22) = 0 then some 0 else (X9_isIn mu18 p1 x17 : Option Bool).bind fun (r27 : Bool) => (if (b2i r27) = 0 then some 0 else (if ((x16 >>> (x11 &&& 31)) &&& 1) = 0 then (rd 16 (mu18 14) x17).bind fun v28 => (if v28 = (-1) then some 1 else some 0) else some 0))) : Option Int32).bind fun (x23 : Int32) => (if x23 = 0 then X9_layMatches_L44 p1 x6 x11 n44 x16 (x17 + 1) mu18 else (X9_scoreOf mu18 p1 x11 x17 : Option Int32).bind fun (r25 : Int32) => (if r25 = x6 then (stI 16 mu18 14 x17 x11).bind fun mu26 => X9_layMatches_L44 p1 x6 x11 n44 (x16 ||| (1 <<< (x11 &&& 31))) (x17 + 1) mu26 else X9_layMatches_L44 p1 x6 x11 n44 x16 (x17 + 1) mu18)))
def X9_layMatches_L34 (p1 : Int32) (x6 : Int32) : Nat → Int32 → Int32 → Mem → Option (Int32 × Mem)
  | 0, _, _, _ => none
  | n34 + 1, x10, x11, mu12 =>
    (if 16 ≤ x11 then some (x10, mu12) else bd2 (X9_layMatches_L44 p1 x6 x11 fu x10 1 mu12) fun (x19 : Int32) (mu20 : Mem) => X9_layMatches_L34 p1 x6 n34 x19 (x11 + 1) mu20)
def X9_layMatches_L26 (p1 : Int32) : Nat → Int32 → Int32 → Mem → Option (Mem)
  | 0, _, _, _ => none
  | n26 + 1, x5, x6, mu7 =>
    (if x6 < 3 then some mu7 else bd2 (X9_layMatches_L34 p1 x6 fu x5 1 mu7) fun (x13 : Int32) (mu14 : Mem) => X9_layMatches_L26 p1 n26 x13 (x6 + (-1)) mu14)
def X9_layMatches_L2 : Nat → Int32 → Mem → Option (Mem)
  | 0, _, _ => none
  | n2 + 1, x1, mu2 =>
    (if 16 ≤ x1 then some mu2 else (stI 16 mu2 14 x1 (-1)).bind fun mu29 => X9_layMatches_L2 n2 (x1 + 1) mu29)
def X9_layMatches (u : Mem) (p1 : Int32) : Option (Mem) :=
  (X9_layMatches_L2 fu 0 u : Option Mem).bind fun (mu3 : Mem) => (X9_layMatches_L26 p1 fu 0 9 mu3 : Option Mem).bind fun (mu8 : Mem) => some mu8
set_option maxHeartbeats 4000000 in
set_option maxRecDepth 100000 in
theorem c_X9_layMatches {l : Launch} {D : va_G} {A : Nat → Nat} {cI cZ cD : ClassId} {u u1 : Mem} {p1 : Int32}  (hE : X9_layMatches u p1 = some (u1)) : Ct l yX9_layMatches cX9_layMatches 7 none (rmOf 2 46) D (tyL cI cZ cD) [.ref (A 0), .int p1] (wY A cI u) none (wY A cI u1) := by
  refine Ct.ofW (by decide +kernel) (fun p e s m below meth c hC hI => ?_)
  obtain ⟨hx, hb, hml, hown, hr, hlk, hG⟩ := hC
  have hown : s.vm.findClass RX9 = some m.cls := hown
  have hl := lv_entry ([.ref (A 0), .int p1] : List Value) (n := 7) (Nat.le_of_ble_eq_true rfl)
  rw [lg_entry_eq]
  generalize (lg_sl ([.ref (A 0), .int p1] : List Value) ++ List.replicate (7 - (lg_sl ([.ref (A 0), .int p1] : List Value)).length) Slot.unset).toArray = ls at hl ⊢
  have hl : lv_has ls 7 [(0, .ref (A 0)), (1, .int p1)] := hl
  unfold X9_layMatches at hE
  refine lv_iconst (v := 0) hx hb dX9_layMatches_0 (by decide) ?_
  refine lv_istore_n (lv' := [(2, .int 0), (0, .ref (A 0)), (1, .int p1)]) hx hb dX9_layMatches_1 rfl hl (by decide) rfl (fun ls hl => ?_)
  obtain ⟨mu3, hZ, hE⟩ := bd1_some hE
  have hX2_3 : ∀ (H : Heap) (locs : List Loc) (ls : Array Slot), xI D (va_A (wY A cI u) s.heap.size) s.heap (wY A cI mu3) H locs → lv_has ls 7 [(0, .ref (A 0)), (1, .int p1)] → W p l e (rmOf 2 46) s m ([.ref (A 0), .int p1] : List Value).toArray below meth c H locs 0 0 (xQ D (tyL cI cZ cD) below ([.ref (A 0), .int p1] : List Value).toArray s (wY A cI u) none (wY A cI u1)) (F0 m 21 ls []) := by
    intro H locs ls hI hl
    clear hZ
    refine lv_iconst (v := 0) hx hb dX9_layMatches_21 (by decide) ?_
    refine lv_istore_n (lv' := [(2, .int 0), (0, .ref (A 0)), (1, .int p1)]) hx hb dX9_layMatches_22 rfl hl (by decide) rfl (fun ls hl => ?_)
    refine lv_bipush (v := 9) hx hb dX9_layMatches_23 (by decide) ?_
    refine lv_istore_n (lv' := [(3, .int 9), (2, .int 0), (0, .ref (A 0)), (1, .int p1)]) hx hb dX9_layMatches_25 rfl hl (by decide) rfl (fun ls hl => ?_)
    obtain ⟨mu8, hZ, hE⟩ := bd1_some hE
    have hX26_8 : ∀ (H : Heap) (locs : List Loc) (ls : Array Slot), xI D (va_A (wY A cI u) s.heap.size) s.heap (wY A cI mu8) H locs → lv_has ls 7 [] → W p l e (rmOf 2 46) s m ([.ref (A 0), .int p1] : List Value).toArray below meth c H locs 0 0 (xQ D (tyL cI cZ cD) below ([.ref (A 0), .int p1] : List Value).toArray s (wY A cI u) none (wY A cI u1)) (F0 m 150 ls []) := by
      intro H locs ls hI hl
      clear hZ
      obtain rfl := sm1 hE
      exact xr_v hx hb hr hlk hG hI dX9_layMatches_150
    replace hE := hZ
    clear hZ
    have hL26 : ∀ (n26 : Nat) (x5 : Int32) (x6 : Int32) (mu7 : Mem) (H : Heap) (locs : List Loc) (ls : Array Slot), X9_layMatches_L26 p1 n26 x5 x6 mu7 = some mu8 → xI D (va_A (wY A cI u) s.heap.size) s.heap (wY A cI mu7) H locs → lv_has ls 7 [(0, .ref (A 0)), (1, .int p1), (2, .int x5), (3, .int x6)] → W p l e (rmOf 2 46) s m ([.ref (A 0), .int p1] : List Value).toArray below meth c H locs 0 0 (xQ D (tyL cI cZ cD) below ([.ref (A 0), .int p1] : List Value).toArray s (wY A cI u) none (wY A cI u1)) (F0 m 26 ls []) := by
      intro n26
      induction n26 with
      | zero =>
        intro x5 x6 mu7 H locs ls hE
        exact absurd hE (by simp [X9_layMatches_L26])
      | succ n26 ih26 =>
        intro x5 x6 mu7 H locs ls hE hI hl
        rw [X9_layMatches_L26] at hE
        refine lv_iload_n hx hb dX9_layMatches_26 rfl (lv_at hl 3 rfl) ?_
        refine lv_iconst (v := 3) hx hb dX9_layMatches_27 (by decide) ?_
        refine lv_icmp_lt (tgt := 150) hx hb dX9_layMatches_28 (by decide) (fun c28 => ?_) (fun c28 => ?_)
        · rw [if_pos c28] at hE
          obtain rfl := sm1 hE
          exact hX26_8 _ _ _ hI (lv_sub hl [] rfl)
        · rw [if_neg c28] at hE
          refine lv_iconst (v := 1) hx hb dX9_layMatches_31 (by decide) ?_
          refine lv_istore (lv' := [(4, .int 1), (0, .ref (A 0)), (1, .int p1), (2, .int x5), (3, .int x6)]) hx hb dX9_layMatches_32 hl (by decide) rfl (fun ls hl => ?_)
          obtain ⟨x13, mu14, hZ, hE⟩ := bd2_some hE
          have hX34_14 : ∀ (H : Heap) (locs : List Loc) (ls : Array Slot), xI D (va_A (wY A cI u) s.heap.size) s.heap (wY A cI mu14) H locs → lv_has ls 7 [(0, .ref (A 0)), (1, .int p1), (2, .int x13), (3, .int x6)] → W p l e (rmOf 2 46) s m ([.ref (A 0), .int p1] : List Value).toArray below meth c H locs 0 0 (xQ D (tyL cI cZ cD) below ([.ref (A 0), .int p1] : List Value).toArray s (wY A cI u) none (wY A cI u1)) (F0 m 144 ls []) := by
            intro H locs ls hI hl
            clear hZ
            refine lv_iinc (v := x6 + (-1)) (lv' := [(3, .int (x6 + (-1))), (0, .ref (A 0)), (1, .int p1), (2, .int x13)]) hx hb dX9_layMatches_144 hl (k := 3) rfl (congrArg (x6 + ·) (by decide)) (by decide) rfl (fun ls hl => ?_)
            refine lv_goto (tgt := 26) hx hb dX9_layMatches_147 (by decide) ?_
            exact ih26 _ _ _ _ _ _ hE hI (lv_sub hl [1, 2, 3, 0] rfl)
          replace hE := hZ
          clear hZ
          have hL34 : ∀ (n34 : Nat) (x10 : Int32) (x11 : Int32) (mu12 : Mem) (H : Heap) (locs : List Loc) (ls : Array Slot), X9_layMatches_L34 p1 x6 n34 x10 x11 mu12 = some (x13, mu14) → xI D (va_A (wY A cI u) s.heap.size) s.heap (wY A cI mu12) H locs → lv_has ls 7 [(0, .ref (A 0)), (1, .int p1), (2, .int x10), (3, .int x6), (4, .int x11)] → W p l e (rmOf 2 46) s m ([.ref (A 0), .int p1] : List Value).toArray below meth c H locs 0 0 (xQ D (tyL cI cZ cD) below ([.ref (A 0), .int p1] : List Value).toArray s (wY A cI u) none (wY A cI u1)) (F0 m 34 ls []) := by
            intro n34
            induction n34 with
            | zero =>
              intro x10 x11 mu12 H locs ls hE
              exact absurd hE (by simp [X9_layMatches_L34])
            | succ n34 ih34 =>
              intro x10 x11 mu12 H locs ls hE hI hl
              rw [X9_layMatches_L34] at hE
              refine lv_iload hx hb dX9_layMatches_34 (lv_at hl 4 rfl) ?_
              refine lv_bipush (v := 16) hx hb dX9_layMatches_36 (by decide) ?_
              refine lv_icmp_ge (tgt := 144) hx hb dX9_layMatches_38 (by decide) (fun c38 => ?_) (fun c38 => ?_)
              · rw [if_pos c38] at hE
                obtain ⟨rfl, rfl⟩ := sm2 hE
                exact hX34_14 _ _ _ hI (lv_sub hl [0, 1, 2, 3] rfl)
              · rw [if_neg c38] at hE
                refine lv_iconst (v := 1) hx hb dX9_layMatches_41 (by decide) ?_
                refine lv_istore (lv' := [(5, .int 1), (0, .ref (A 0)), (1, .int p1), (2, .int x10), (3, .int x6), (4, .int x11)]) hx hb dX9_layMatches_42 hl (by decide) rfl (fun ls hl => ?_)
                obtain ⟨x19, mu20, hZ, hE⟩ := bd2_some hE
                have hX44_20 : ∀ (H : Heap) (locs : List Loc) (ls : Array Slot), xI D (va_A (wY A cI u) s.heap.size) s.heap (wY A cI mu20) H locs → lv_has ls 7 [(0, .ref (A 0)), (1, .int p1), (2, .int x19), (3, .int x6), (4, .int x11)] → W p l e (rmOf 2 46) s m ([.ref (A 0), .int p1] : List Value).toArray below meth c H locs 0 0 (xQ D (tyL cI cZ cD) below ([.ref (A 0), .int p1] : List Value).toArray s (wY A cI u) none (wY A cI u1)) (F0 m 138 ls []) := by
                  intro H locs ls hI hl
                  clear hZ
                  refine lv_iinc (v := x11 + 1) (lv' := [(4, .int (x11 + 1)), (0, .ref (A 0)), (1, .int p1), (2, .int x19), (3, .int x6)]) hx hb dX9_layMatches_138 hl (k := 4) rfl rfl (by decide) rfl (fun ls hl => ?_)
                  refine lv_goto (tgt := 34) hx hb dX9_layMatches_141 (by decide) ?_
                  exact ih34 _ _ _ _ _ _ hE hI (lv_sub hl [1, 2, 3, 4, 0] rfl)
                replace hE := hZ
                clear hZ
                have hL44 : ∀ (n44 : Nat) (x16 : Int32) (x17 : Int32) (mu18 : Mem) (H : Heap) (locs : List Loc) (ls : Array Slot), X9_layMatches_L44 p1 x6 x11 n44 x16 x17 mu18 = some (x19, mu20) → xI D (va_A (wY A cI u) s.heap.size) s.heap (wY A cI mu18) H locs → lv_has ls 7 [(0, .ref (A 0)), (1, .int p1), (2, .int x16), (3, .int x6), (4, .int x11), (5, .int x17)] → W p l e (rmOf 2 46) s m ([.ref (A 0), .int p1] : List Value).toArray below meth c H locs 0 0 (xQ D (tyL cI cZ cD) below ([.ref (A 0), .int p1] : List Value).toArray s (wY A cI u) none (wY A cI u1)) (F0 m 44 ls []) := by
                  intro n44
                  induction n44 with
                  | zero =>
                    intro x16 x17 mu18 H locs ls hE
                    exact absurd hE (by simp [X9_layMatches_L44])
                  | succ n44 ih44 =>
                    intro x16 x17 mu18 H locs ls hE hI hl
                    rw [X9_layMatches_L44] at hE
                    refine lv_iload hx hb dX9_layMatches_44 (lv_at hl 5 rfl) ?_
                    refine lv_bipush (v := 16) hx hb dX9_layMatches_46 (by decide) ?_
                    refine lv_icmp_ge (tgt := 138) hx hb dX9_layMatches_48 (by decide) (fun c48 => ?_) (fun c48 => ?_)
                    · rw [if_pos c48] at hE
                      obtain ⟨rfl, rfl⟩ := sm2 hE
                      exact hX44_20 _ _ _ hI (lv_sub hl [0, 1, 2, 3, 4] rfl)
                    · rw [if_neg c48] at hE
                      refine lv_aload_n hx hb dX9_layMatches_51 rfl (lv_at hl 0 rfl) ?_
                      refine lv_iconst (v := 0) hx hb dX9_layMatches_52 (by decide) ?_
                      refine lv_iload hx hb dX9_layMatches_53 (lv_at hl 4 rfl) ?_
                      obtain ⟨r22, hc, hE⟩ := bd1_some hE
                      refine xc_V1 (rest := []) (c_X9_isIn hc) mw_X9_isIn km_X9_72 hx hb hml hown hG hI xA_of (wG_atE (by omega) eY_0) rfl rfl ⟨Nat.le_of_ble_eq_true rfl, Nat.le_of_ble_eq_true rfl⟩ rfl hl.1 rfl (Nat.le_of_ble_eq_true rfl) dX9_layMatches_55 (fun H locs hI => ?_)
                      obtain ⟨x23, hZ, hE⟩ := bd1_some hE
                      have hJ96_23 : ∀ (H : Heap) (locs : List Loc) (ls : Array Slot), xI D (va_A (wY A cI u) s.heap.size) s.heap (wY A cI mu18) H locs → lv_has ls 7 [(0, .ref (A 0)), (1, .int p1), (2, .int x16), (3, .int x6), (4, .int x11), (5, .int x17)] → W p l e (rmOf 2 46) s m ([.ref (A 0), .int p1] : List Value).toArray below meth c H locs 0 0 (xQ D (tyL cI cZ cD) below ([.ref (A 0), .int p1] : List Value).toArray s (wY A cI u) none (wY A cI u1)) (F0 m 96 ls [.int x23]) := by
                        intro H locs ls hI hl
                        clear hZ
                        refine lv_istore (lv' := [(6, .int x23), (0, .ref (A 0)), (1, .int p1), (2, .int x16), (3, .int x6), (4, .int x11), (5, .int x17)]) hx hb dX9_layMatches_96 hl (by decide) rfl (fun ls hl => ?_)
                        refine lv_iload hx hb dX9_layMatches_98 (lv_at hl 0 rfl) ?_
                        refine lv_if_eq (tgt := 132) hx hb dX9_layMatches_100 (by decide) (fun c100 => ?_) (fun c100 => ?_)
                        · rw [if_pos c100] at hE
                          refine lv_iinc (v := x17 + 1) (lv' := [(5, .int (x17 + 1)), (6, .int x23), (0, .ref (A 0)), (1, .int p1), (2, .int x16), (3, .int x6), (4, .int x11)]) hx hb dX9_layMatches_132 hl (k := 6) rfl rfl (by decide) rfl (fun ls hl => ?_)
                          refine lv_goto (tgt := 44) hx hb dX9_layMatches_135 (by decide) ?_
                          exact ih44 _ _ _ _ _ _ hE hI (lv_sub hl [2, 3, 4, 5, 6, 0] rfl)
                        · rw [if_neg c100] at hE
                          refine lv_aload_n hx hb dX9_layMatches_103 rfl (lv_at hl 1 rfl) ?_
                          refine lv_iload_n hx hb dX9_layMatches_104 rfl (lv_at hl 2 rfl) ?_
                          refine lv_iload hx hb dX9_layMatches_105 (lv_at hl 5 rfl) ?_
                          refine lv_iload hx hb dX9_layMatches_107 (lv_at hl 6 rfl) ?_
                          obtain ⟨r25, hc, hE⟩ := bd1_some hE
                          refine xc_V1 (rest := []) (c_X9_scoreOf hc) mw_X9_scoreOf km_X9_205 hx hb hml hown hG hI xA_of (wG_atE (by omega) eY_0) rfl rfl ⟨Nat.le_of_ble_eq_true rfl, Nat.le_of_ble_eq_true rfl⟩ rfl hl.1 rfl (Nat.le_of_ble_eq_true rfl) dX9_layMatches_109 (fun H locs hI => ?_)
                          refine lv_iload_n hx hb dX9_layMatches_112 rfl (lv_at hl 4 rfl) ?_
                          refine lv_icmp_ne (tgt := 132) hx hb dX9_layMatches_113 (by decide) (fun c113 => ?_) (fun c113 => ?_)
                          · rw [if_neg c113] at hE
                            refine lv_iinc (v := x17 + 1) (lv' := [(5, .int (x17 + 1)), (6, .int x23), (0, .ref (A 0)), (1, .int p1), (2, .int x16), (3, .int x6), (4, .int x11)]) hx hb dX9_layMatches_132 hl (k := 6) rfl rfl (by decide) rfl (fun ls hl => ?_)
                            refine lv_goto (tgt := 44) hx hb dX9_layMatches_135 (by decide) ?_
                            exact ih44 _ _ _ _ _ _ hE hI (lv_sub hl [2, 3, 4, 5, 6, 0] rfl)
                          · rw [if_pos c113] at hE
                            refine lv_aload_n hx hb dX9_layMatches_116 rfl (lv_at hl 1 rfl) ?_
                            refine xg_get (C := RX9) (T := TX9) (M := 22) hx hb hown hG hI (by omega) eY_0 rfl inX9 18 (by decide) kf_X9_49 rfl dX9_layMatches_117 ?_
                            refine lv_iload hx hb dX9_layMatches_120 (lv_at hl 6 rfl) ?_
                            refine lv_iload hx hb dX9_layMatches_122 (lv_at hl 5 rfl) ?_
                            obtain ⟨mu26, hv, hE⟩ := bd1_some hE
                            refine xg_iast 0 hx hb hG hI (by omega) eY_14 rfl hv dX9_layMatches_124 (fun H locs hI => ?_)
                            refine lv_iload_n hx hb dX9_layMatches_125 rfl (lv_at hl 3 rfl) ?_
                            refine lv_iconst (v := 1) hx hb dX9_layMatches_126 (by decide) ?_
                            refine lv_iload hx hb dX9_layMatches_127 (lv_at hl 5 rfl) ?_
                            refine lv_ishl hx hb dX9_layMatches_129 ?_
                            refine lv_ior hx hb dX9_layMatches_130 ?_
                            refine lv_istore_n (lv' := [(2, .int (x16 ||| (1 <<< (x11 &&& 31)))), (6, .int x23), (0, .ref (A 0)), (1, .int p1), (3, .int x6), (4, .int x11), (5, .int x17)]) hx hb dX9_layMatches_131 rfl hl (by decide) rfl (fun ls hl => ?_)
                            refine lv_iinc (v := x17 + 1) (lv' := [(5, .int (x17 + 1)), (2, .int (x16 ||| (1 <<< (x11 &&& 31)))), (6, .int x23), (0, .ref (A 0)), (1, .int p1), (3, .int x6), (4, .int x11)]) hx hb dX9_layMatches_132 hl (k := 6) rfl rfl (by decide) rfl (fun ls hl => ?_)
                            refine lv_goto (tgt := 44) hx hb dX9_layMatches_135 (by decide) ?_
                            exact ih44 _ _ _ _ _ _ hE hI (lv_sub hl [3, 4, 1, 5, 6, 0] rfl)
                      replace hE := hZ
                      clear hZ
                      refine lv_if_eq (tgt := 95) hx hb dX9_layMatches_58 (by decide) (fun c58 => ?_) (fun c58 => ?_)
                      · rw [if_pos c58] at hE
                        refine lv_iconst (v := 0) hx hb dX9_layMatches_95 (by decide) ?_
                        obtain rfl := sm1 hE
                        exact hJ96_23 _ _ _ hI (lv_sub hl [0, 1, 2, 3, 4, 5] rfl)
                      · rw [if_neg c58] at hE
                        refine lv_aload_n hx hb dX9_layMatches_61 rfl (lv_at hl 0 rfl) ?_
                        refine lv_iload_n hx hb dX9_layMatches_62 rfl (lv_at hl 1 rfl) ?_
                        refine lv_iload hx hb dX9_layMatches_63 (lv_at hl 5 rfl) ?_
                        obtain ⟨r27, hc, hE⟩ := bd1_some hE
                        refine xc_V1 (rest := []) (c_X9_isIn hc) mw_X9_isIn km_X9_72 hx hb hml hown hG hI xA_of (wG_atE (by omega) eY_0) rfl rfl ⟨Nat.le_of_ble_eq_true rfl, Nat.le_of_ble_eq_true rfl⟩ rfl hl.1 rfl (Nat.le_of_ble_eq_true rfl) dX9_layMatches_65 (fun H locs hI => ?_)
                        refine lv_if_eq (tgt := 95) hx hb dX9_layMatches_68 (by decide) (fun c68 => ?_) (fun c68 => ?_)
                        · rw [if_pos c68] at hE
                          refine lv_iconst (v := 0) hx hb dX9_layMatches_95 (by decide) ?_
                          obtain rfl := sm1 hE
                          exact hJ96_23 _ _ _ hI (lv_sub hl [0, 1, 2, 3, 4, 5] rfl)
                        · rw [if_neg c68] at hE
                          refine lv_iload_n hx hb dX9_layMatches_71 rfl (lv_at hl 2 rfl) ?_
                          refine lv_iload hx hb dX9_layMatches_72 (lv_at hl 4 rfl) ?_
                          refine lv_ishr hx hb dX9_layMatches_74 ?_
                          refine lv_iconst (v := 1) hx hb dX9_layMatches_75 (by decide) ?_
                          refine lv_iand hx hb dX9_layMatches_76 ?_
                          refine lv_if_ne (tgt := 95) hx hb dX9_layMatches_77 (by decide) (fun c77 => ?_) (fun c77 => ?_)
                          · rw [if_neg c77] at hE
                            refine lv_iconst (v := 0) hx hb dX9_layMatches_95 (by decide) ?_
                            obtain rfl := sm1 hE
                            exact hJ96_23 _ _ _ hI (lv_sub hl [0, 1, 2, 3, 4, 5] rfl)
                          · rw [if_pos c77] at hE
                            refine lv_aload_n hx hb dX9_layMatches_80 rfl (lv_at hl 0 rfl) ?_
                            refine xg_get (C := RX9) (T := TX9) (M := 22) hx hb hown hG hI (by omega) eY_0 rfl inX9 18 (by decide) kf_X9_49 rfl dX9_layMatches_81 ?_
                            refine lv_iload hx hb dX9_layMatches_84 (lv_at hl 5 rfl) ?_
                            obtain ⟨v28, hv, hE⟩ := bd1_some hE
                            refine xg_iald 0 hx hb hG hI (by omega) eY_14 rfl hv dX9_layMatches_86 ?_
                            refine lv_iconst (v := (-1)) hx hb dX9_layMatches_87 (by decide) ?_
                            refine lv_icmp_ne (tgt := 95) hx hb dX9_layMatches_88 (by decide) (fun c88 => ?_) (fun c88 => ?_)
                            · rw [if_neg c88] at hE
                              refine lv_iconst (v := 0) hx hb dX9_layMatches_95 (by decide) ?_
                              obtain rfl := sm1 hE
                              exact hJ96_23 _ _ _ hI (lv_sub hl [0, 1, 2, 3, 4, 5] rfl)
                            · rw [if_pos c88] at hE
                              refine lv_iconst (v := 1) hx hb dX9_layMatches_91 (by decide) ?_
                              refine lv_goto (tgt := 96) hx hb dX9_layMatches_92 (by decide) ?_
                              obtain rfl := sm1 hE
                              exact hJ96_23 _ _ _ hI (lv_sub hl [0, 1, 2, 3, 4, 5] rfl)
                exact hL44 _ _ _ _ _ _ _ hE hI (lv_sub hl [1, 2, 3, 4, 5, 0] rfl)
          exact hL34 _ _ _ _ _ _ _ hE hI (lv_sub hl [1, 2, 3, 4, 0] rfl)
    exact hL26 _ _ _ _ _ _ _ hE hI (lv_sub hl [2, 3, 1, 0] rfl)
  replace hE := hZ
  clear hZ
  have hL2 : ∀ (n2 : Nat) (x1 : Int32) (mu2 : Mem) (H : Heap) (locs : List Loc) (ls : Array Slot), X9_layMatches_L2 n2 x1 mu2 = some mu3 → xI D (va_A (wY A cI u) s.heap.size) s.heap (wY A cI mu2) H locs → lv_has ls 7 [(0, .ref (A 0)), (1, .int p1), (2, .int x1)] → W p l e (rmOf 2 46) s m ([.ref (A 0), .int p1] : List Value).toArray below meth c H locs 0 0 (xQ D (tyL cI cZ cD) below ([.ref (A 0), .int p1] : List Value).toArray s (wY A cI u) none (wY A cI u1)) (F0 m 2 ls []) := by
    intro n2
    induction n2 with
    | zero =>
      intro x1 mu2 H locs ls hE
      exact absurd hE (by simp [X9_layMatches_L2])
    | succ n2 ih2 =>
      intro x1 mu2 H locs ls hE hI hl
      rw [X9_layMatches_L2] at hE
      refine lv_iload_n hx hb dX9_layMatches_2 rfl (lv_at hl 2 rfl) ?_
      refine lv_bipush (v := 16) hx hb dX9_layMatches_3 (by decide) ?_
      refine lv_icmp_ge (tgt := 21) hx hb dX9_layMatches_5 (by decide) (fun c5 => ?_) (fun c5 => ?_)
      · rw [if_pos c5] at hE
        obtain rfl := sm1 hE
        exact hX2_3 _ _ _ hI (lv_sub hl [0, 1] rfl)
      · rw [if_neg c5] at hE
        refine lv_aload_n hx hb dX9_layMatches_8 rfl (lv_at hl 0 rfl) ?_
        refine xg_get (C := RX9) (T := TX9) (M := 22) hx hb hown hG hI (by omega) eY_0 rfl inX9 18 (by decide) kf_X9_49 rfl dX9_layMatches_9 ?_
        refine lv_iload_n hx hb dX9_layMatches_12 rfl (lv_at hl 2 rfl) ?_
        refine lv_iconst (v := (-1)) hx hb dX9_layMatches_13 (by decide) ?_
        obtain ⟨mu29, hv, hE⟩ := bd1_some hE
        refine xg_iast 0 hx hb hG hI (by omega) eY_14 rfl hv dX9_layMatches_14 (fun H locs hI => ?_)
        refine lv_iinc (v := x1 + 1) (lv' := [(2, .int (x1 + 1)), (0, .ref (A 0)), (1, .int p1)]) hx hb dX9_layMatches_15 hl (k := 2) rfl rfl (by decide) rfl (fun ls hl => ?_)
        refine lv_goto (tgt := 2) hx hb dX9_layMatches_18 (by decide) ?_
        exact ih2 _ _ _ _ _ hE hI (lv_sub hl [1, 2, 0] rfl)
  exact hL2 _ _ _ _ _ _ hE hI (lv_sub hl [1, 2, 0] rfl)
def X9_matches (u : Mem) (p1 : Int32) (p2 : Int32) : Option (Int32 × Mem) :=
  (X9_in p1 1 2 : Option Bool).bind fun (r1 : Bool) => (if (b2i r1) = 0 then bd2 (X9_refuse u (-2)) fun (r2 : Int32) (mu3 : Mem) => some (r2, mu3) else (X9_isThere u p1 p2 : Option Bool).bind fun (r4 : Bool) => (if (b2i r4) = 0 then bd2 (X9_refuse u (-2)) fun (r5 : Int32) (mu6 : Mem) => some (r5, mu6) else (if p2 = 0 then bd2 (X9_refuse u (-2)) fun (r9 : Int32) (mu10 : Mem) => some (r9, mu10) else (X9_layMatches u p1 : Option Mem).bind fun (mu7 : Mem) => (rd 16 (mu7 14) p2).bind fun v8 => some (v8, mu7))))
set_option maxHeartbeats 4000000 in
set_option maxRecDepth 100000 in
theorem c_X9_matches {l : Launch} {D : va_G} {A : Nat → Nat} {cI cZ cD : ClassId} {u u1 : Mem} {p1 : Int32} {p2 : Int32} {r : Int32}  (hE : X9_matches u p1 p2 = some (r, u1)) : Ct l yX9_matches cX9_matches 3 (some .int) (rmOf 3 72) D (tyL cI cZ cD) [.ref (A 0), .int p1, .int p2] (wY A cI u) (some (.int r)) (wY A cI u1) := by
  refine Ct.ofW (by decide +kernel) (fun p e s m below meth c hC hI => ?_)
  obtain ⟨hx, hb, hml, hown, hr, hlk, hG⟩ := hC
  have hown : s.vm.findClass RX9 = some m.cls := hown
  have hl := lv_entry ([.ref (A 0), .int p1, .int p2] : List Value) (n := 3) (Nat.le_of_ble_eq_true rfl)
  rw [lg_entry_eq]
  generalize (lg_sl ([.ref (A 0), .int p1, .int p2] : List Value) ++ List.replicate (3 - (lg_sl ([.ref (A 0), .int p1, .int p2] : List Value)).length) Slot.unset).toArray = ls at hl ⊢
  have hl : lv_has ls 3 [(0, .ref (A 0)), (1, .int p1), (2, .int p2)] := hl
  unfold X9_matches at hE
  refine lv_iload_n hx hb dX9_matches_0 rfl (lv_at hl 1 rfl) ?_
  refine lv_iconst (v := 1) hx hb dX9_matches_1 (by decide) ?_
  refine lv_iconst (v := 2) hx hb dX9_matches_2 (by decide) ?_
  obtain ⟨r1, hc, hE⟩ := bd1_some hE
  refine xc_S1 (rest := []) (c_X9_in hc) mw_X9_in km_X9_68 hx hb hml hown hG hI xA_of ⟨Nat.le_of_ble_eq_true rfl, Nat.le_of_ble_eq_true rfl⟩ rfl hl.1 rfl (Nat.le_of_ble_eq_true rfl) dX9_matches_3 (fun H locs hI => ?_)
  refine lv_if_eq (tgt := 22) hx hb dX9_matches_6 (by decide) (fun c6 => ?_) (fun c6 => ?_)
  · rw [if_pos c6] at hE
    refine lv_aload_n hx hb dX9_matches_22 rfl (lv_at hl 0 rfl) ?_
    refine lv_bipush (v := (-2)) hx hb dX9_matches_23 (by decide) ?_
    obtain ⟨r2, mu3, hc, hE⟩ := bd2_some hE
    refine xc_V1 (rest := []) (c_X9_refuse hc) mw_X9_refuse km_X9_60 hx hb hml hown hG hI xA_of (wG_atE (by omega) eY_0) rfl rfl ⟨Nat.le_of_ble_eq_true rfl, Nat.le_of_ble_eq_true rfl⟩ rfl hl.1 rfl (Nat.le_of_ble_eq_true rfl) dX9_matches_25 (fun H locs hI => ?_)
    obtain ⟨rfl, rfl⟩ := sm2 hE
    exact xr_i hx hb hr hlk hG hI dX9_matches_28
  · rw [if_neg c6] at hE
    refine lv_aload_n hx hb dX9_matches_9 rfl (lv_at hl 0 rfl) ?_
    refine lv_iload_n hx hb dX9_matches_10 rfl (lv_at hl 1 rfl) ?_
    refine lv_iload_n hx hb dX9_matches_11 rfl (lv_at hl 2 rfl) ?_
    obtain ⟨r4, hc, hE⟩ := bd1_some hE
    refine xc_V1 (rest := []) (c_X9_isThere hc) mw_X9_isThere km_X9_90 hx hb hml hown hG hI xA_of (wG_atE (by omega) eY_0) rfl rfl ⟨Nat.le_of_ble_eq_true rfl, Nat.le_of_ble_eq_true rfl⟩ rfl hl.1 rfl (Nat.le_of_ble_eq_true rfl) dX9_matches_12 (fun H locs hI => ?_)
    refine lv_if_eq (tgt := 22) hx hb dX9_matches_15 (by decide) (fun c15 => ?_) (fun c15 => ?_)
    · rw [if_pos c15] at hE
      refine lv_aload_n hx hb dX9_matches_22 rfl (lv_at hl 0 rfl) ?_
      refine lv_bipush (v := (-2)) hx hb dX9_matches_23 (by decide) ?_
      obtain ⟨r5, mu6, hc, hE⟩ := bd2_some hE
      refine xc_V1 (rest := []) (c_X9_refuse hc) mw_X9_refuse km_X9_60 hx hb hml hown hG hI xA_of (wG_atE (by omega) eY_0) rfl rfl ⟨Nat.le_of_ble_eq_true rfl, Nat.le_of_ble_eq_true rfl⟩ rfl hl.1 rfl (Nat.le_of_ble_eq_true rfl) dX9_matches_25 (fun H locs hI => ?_)
      obtain ⟨rfl, rfl⟩ := sm2 hE
      exact xr_i hx hb hr hlk hG hI dX9_matches_28
    · rw [if_neg c15] at hE
      refine lv_iload_n hx hb dX9_matches_18 rfl (lv_at hl 2 rfl) ?_
      refine lv_if_ne (tgt := 29) hx hb dX9_matches_19 (by decide) (fun c19 => ?_) (fun c19 => ?_)
      · rw [if_neg c19] at hE
        refine lv_aload_n hx hb dX9_matches_29 rfl (lv_at hl 0 rfl) ?_
        refine lv_iload_n hx hb dX9_matches_30 rfl (lv_at hl 1 rfl) ?_
        obtain ⟨mu7, hc, hE⟩ := bd1_some hE
        refine xc_V0 (rest := []) (c_X9_layMatches hc) mw_X9_layMatches km_X9_208 hx hb hml hown hG hI xA_of (wG_atE (by omega) eY_0) rfl rfl ⟨Nat.le_of_ble_eq_true rfl, Nat.le_of_ble_eq_true rfl⟩ rfl hl.1 rfl (Nat.le_of_ble_eq_true rfl) dX9_matches_31 (fun H locs hI => ?_)
        refine lv_aload_n hx hb dX9_matches_34 rfl (lv_at hl 0 rfl) ?_
        refine xg_get (C := RX9) (T := TX9) (M := 22) hx hb hown hG hI (by omega) eY_0 rfl inX9 18 (by decide) kf_X9_49 rfl dX9_matches_35 ?_
        refine lv_iload_n hx hb dX9_matches_38 rfl (lv_at hl 2 rfl) ?_
        obtain ⟨v8, hv, hE⟩ := bd1_some hE
        refine xg_iald 0 hx hb hG hI (by omega) eY_14 rfl hv dX9_matches_39 ?_
        obtain ⟨rfl, rfl⟩ := sm2 hE
        exact xr_i hx hb hr hlk hG hI dX9_matches_40
      · rw [if_pos c19] at hE
        refine lv_aload_n hx hb dX9_matches_22 rfl (lv_at hl 0 rfl) ?_
        refine lv_bipush (v := (-2)) hx hb dX9_matches_23 (by decide) ?_
        obtain ⟨r9, mu10, hc, hE⟩ := bd2_some hE
        refine xc_V1 (rest := []) (c_X9_refuse hc) mw_X9_refuse km_X9_60 hx hb hml hown hG hI xA_of (wG_atE (by omega) eY_0) rfl rfl ⟨Nat.le_of_ble_eq_true rfl, Nat.le_of_ble_eq_true rfl⟩ rfl hl.1 rfl (Nat.le_of_ble_eq_true rfl) dX9_matches_25 (fun H locs hI => ?_)
        obtain ⟨rfl, rfl⟩ := sm2 hE
        exact xr_i hx hb hr hlk hG hI dX9_matches_28
def X9_strangers_L9 (mu1 : Mem) : Nat → Int32 → Int32 → Option (Int32)
  | 0, _, _ => none
  | n9 + 1, x2, x3 =>
    (if 16 ≤ x3 then some x2 else (rd 16 (mu1 14) x3).bind fun v6 => ((if v6 = (-1) then some 0 else (rd 16 (mu1 14) x3).bind fun v9 => (if v9 = x3 then some 0 else some 1)) : Option Int32).bind fun (x7 : Int32) => X9_strangers_L9 mu1 n9 (x2 + x7) (x3 + 1))
def X9_strangers (u : Mem) (p1 : Int32) : Option (Int32 × Mem) :=
  (X9_layMatches u p1 : Option Mem).bind fun (mu1 : Mem) => (X9_strangers_L9 mu1 fu 0 1 : Option Int32).bind fun (x4 : Int32) => some (x4, mu1)
set_option maxHeartbeats 4000000 in
set_option maxRecDepth 100000 in
theorem c_X9_strangers {l : Launch} {D : va_G} {A : Nat → Nat} {cI cZ cD : ClassId} {u u1 : Mem} {p1 : Int32} {r : Int32}  (hE : X9_strangers u p1 = some (r, u1)) : Ct l yX9_strangers cX9_strangers 4 (some .int) (rmOf 3 72) D (tyL cI cZ cD) [.ref (A 0), .int p1] (wY A cI u) (some (.int r)) (wY A cI u1) := by
  refine Ct.ofW (by decide +kernel) (fun p e s m below meth c hC hI => ?_)
  obtain ⟨hx, hb, hml, hown, hr, hlk, hG⟩ := hC
  have hown : s.vm.findClass RX9 = some m.cls := hown
  have hl := lv_entry ([.ref (A 0), .int p1] : List Value) (n := 4) (Nat.le_of_ble_eq_true rfl)
  rw [lg_entry_eq]
  generalize (lg_sl ([.ref (A 0), .int p1] : List Value) ++ List.replicate (4 - (lg_sl ([.ref (A 0), .int p1] : List Value)).length) Slot.unset).toArray = ls at hl ⊢
  have hl : lv_has ls 4 [(0, .ref (A 0)), (1, .int p1)] := hl
  unfold X9_strangers at hE
  refine lv_aload_n hx hb dX9_strangers_0 rfl (lv_at hl 0 rfl) ?_
  refine lv_iload_n hx hb dX9_strangers_1 rfl (lv_at hl 1 rfl) ?_
  obtain ⟨mu1, hc, hE⟩ := bd1_some hE
  refine xc_V0 (rest := []) (c_X9_layMatches hc) mw_X9_layMatches km_X9_208 hx hb hml hown hG hI xA_of (wG_atE (by omega) eY_0) rfl rfl ⟨Nat.le_of_ble_eq_true rfl, Nat.le_of_ble_eq_true rfl⟩ rfl hl.1 rfl (Nat.le_of_ble_eq_true rfl) dX9_strangers_2 (fun H locs hI => ?_)
  refine lv_iconst (v := 0) hx hb dX9_strangers_5 (by decide) ?_
  refine lv_istore_n (lv' := [(2, .int 0), (0, .ref (A 0)), (1, .int p1)]) hx hb dX9_strangers_6 rfl hl (by decide) rfl (fun ls hl => ?_)
  refine lv_iconst (v := 1) hx hb dX9_strangers_7 (by decide) ?_
  refine lv_istore_n (lv' := [(3, .int 1), (2, .int 0), (0, .ref (A 0)), (1, .int p1)]) hx hb dX9_strangers_8 rfl hl (by decide) rfl (fun ls hl => ?_)
  obtain ⟨x4, hZ, hE⟩ := bd1_some hE
  have hX9_4 : ∀ (H : Heap) (locs : List Loc) (ls : Array Slot), xI D (va_A (wY A cI u) s.heap.size) s.heap (wY A cI mu1) H locs → lv_has ls 4 [(2, .int x4)] → W p l e (rmOf 3 72) s m ([.ref (A 0), .int p1] : List Value).toArray below meth c H locs 0 0 (xQ D (tyL cI cZ cD) below ([.ref (A 0), .int p1] : List Value).toArray s (wY A cI u) (some (.int r)) (wY A cI u1)) (F0 m 49 ls []) := by
    intro H locs ls hI hl
    clear hZ
    refine lv_iload_n hx hb dX9_strangers_49 rfl (lv_at hl 0 rfl) ?_
    obtain ⟨rfl, rfl⟩ := sm2 hE
    exact xr_i hx hb hr hlk hG hI dX9_strangers_50
  replace hE := hZ
  clear hZ
  have hL9 : ∀ (n9 : Nat) (x2 : Int32) (x3 : Int32) (H : Heap) (locs : List Loc) (ls : Array Slot), X9_strangers_L9 mu1 n9 x2 x3 = some x4 → xI D (va_A (wY A cI u) s.heap.size) s.heap (wY A cI mu1) H locs → lv_has ls 4 [(0, .ref (A 0)), (2, .int x2), (3, .int x3)] → W p l e (rmOf 3 72) s m ([.ref (A 0), .int p1] : List Value).toArray below meth c H locs 0 0 (xQ D (tyL cI cZ cD) below ([.ref (A 0), .int p1] : List Value).toArray s (wY A cI u) (some (.int r)) (wY A cI u1)) (F0 m 9 ls []) := by
    intro n9
    induction n9 with
    | zero =>
      intro x2 x3 H locs ls hE
      exact absurd hE (by simp [X9_strangers_L9])
    | succ n9 ih9 =>
      intro x2 x3 H locs ls hE hI hl
      rw [X9_strangers_L9] at hE
      refine lv_iload_n hx hb dX9_strangers_9 rfl (lv_at hl 2 rfl) ?_
      refine lv_bipush (v := 16) hx hb dX9_strangers_10 (by decide) ?_
      refine lv_icmp_ge (tgt := 49) hx hb dX9_strangers_12 (by decide) (fun c12 => ?_) (fun c12 => ?_)
      · rw [if_pos c12] at hE
        obtain rfl := sm1 hE
        exact hX9_4 _ _ _ hI (lv_sub hl [1] rfl)
      · rw [if_neg c12] at hE
        refine lv_iload_n hx hb dX9_strangers_15 rfl (lv_at hl 1 rfl) ?_
        refine lv_aload_n hx hb dX9_strangers_16 rfl (lv_at hl 0 rfl) ?_
        refine xg_get (C := RX9) (T := TX9) (M := 22) hx hb hown hG hI (by omega) eY_0 rfl inX9 18 (by decide) kf_X9_49 rfl dX9_strangers_17 ?_
        refine lv_iload_n hx hb dX9_strangers_20 rfl (lv_at hl 2 rfl) ?_
        obtain ⟨v6, hv, hE⟩ := bd1_some hE
        refine xg_iald 0 hx hb hG hI (by omega) eY_14 rfl hv dX9_strangers_21 ?_
        refine lv_iconst (v := (-1)) hx hb dX9_strangers_22 (by decide) ?_
        obtain ⟨x7, hZ, hE⟩ := bd1_some hE
        have hJ41_7 : ∀ (H : Heap) (locs : List Loc) (ls : Array Slot), xI D (va_A (wY A cI u) s.heap.size) s.heap (wY A cI mu1) H locs → lv_has ls 4 [(0, .ref (A 0)), (3, .int x3)] → W p l e (rmOf 3 72) s m ([.ref (A 0), .int p1] : List Value).toArray below meth c H locs 0 0 (xQ D (tyL cI cZ cD) below ([.ref (A 0), .int p1] : List Value).toArray s (wY A cI u) (some (.int r)) (wY A cI u1)) (F0 m 41 ls [.int x7, .int x2]) := by
          intro H locs ls hI hl
          clear hZ
          refine lv_iadd hx hb dX9_strangers_41 ?_
          refine lv_istore_n (lv' := [(2, .int (x2 + x7)), (0, .ref (A 0)), (3, .int x3)]) hx hb dX9_strangers_42 rfl hl (by decide) rfl (fun ls hl => ?_)
          refine lv_iinc (v := x3 + 1) (lv' := [(3, .int (x3 + 1)), (2, .int (x2 + x7)), (0, .ref (A 0))]) hx hb dX9_strangers_43 hl (k := 2) rfl rfl (by decide) rfl (fun ls hl => ?_)
          refine lv_goto (tgt := 9) hx hb dX9_strangers_46 (by decide) ?_
          exact ih9 _ _ _ _ _ hE hI (lv_sub hl [2, 1, 0] rfl)
        replace hE := hZ
        clear hZ
        refine lv_icmp_eq (tgt := 40) hx hb dX9_strangers_23 (by decide) (fun c23 => ?_) (fun c23 => ?_)
        · rw [if_pos c23] at hE
          refine lv_iconst (v := 0) hx hb dX9_strangers_40 (by decide) ?_
          obtain rfl := sm1 hE
          exact hJ41_7 _ _ _ hI (lv_sub hl [0, 2] rfl)
        · rw [if_neg c23] at hE
          refine lv_aload_n hx hb dX9_strangers_26 rfl (lv_at hl 0 rfl) ?_
          refine xg_get (C := RX9) (T := TX9) (M := 22) hx hb hown hG hI (by omega) eY_0 rfl inX9 18 (by decide) kf_X9_49 rfl dX9_strangers_27 ?_
          refine lv_iload_n hx hb dX9_strangers_30 rfl (lv_at hl 2 rfl) ?_
          obtain ⟨v9, hv, hE⟩ := bd1_some hE
          refine xg_iald 0 hx hb hG hI (by omega) eY_14 rfl hv dX9_strangers_31 ?_
          refine lv_iload_n hx hb dX9_strangers_32 rfl (lv_at hl 2 rfl) ?_
          refine lv_icmp_eq (tgt := 40) hx hb dX9_strangers_33 (by decide) (fun c33 => ?_) (fun c33 => ?_)
          · rw [if_pos c33] at hE
            refine lv_iconst (v := 0) hx hb dX9_strangers_40 (by decide) ?_
            obtain rfl := sm1 hE
            exact hJ41_7 _ _ _ hI (lv_sub hl [0, 2] rfl)
          · rw [if_neg c33] at hE
            refine lv_iconst (v := 1) hx hb dX9_strangers_36 (by decide) ?_
            refine lv_goto (tgt := 41) hx hb dX9_strangers_37 (by decide) ?_
            obtain rfl := sm1 hE
            exact hJ41_7 _ _ _ hI (lv_sub hl [0, 2] rfl)
  exact hL9 _ _ _ _ _ _ hE hI (lv_sub hl [2, 1, 0] rfl)
def X9_toldOf (u : Mem) (p1 : Int32) : Option (Int32 × Mem) :=
  (if 2 ≤ p1 then bd2 (X9_strangers u (p1 - 1)) fun (r1 : Int32) (mu2 : Mem) => some (r1, mu2) else (rd 258 (u 1) (256 + p1)).bind fun v3 => some (v3, u))
set_option maxHeartbeats 4000000 in
set_option maxRecDepth 100000 in
theorem c_X9_toldOf {l : Launch} {D : va_G} {A : Nat → Nat} {cI cZ cD : ClassId} {u u1 : Mem} {p1 : Int32} {r : Int32}  (hE : X9_toldOf u p1 = some (r, u1)) : Ct l yX9_toldOf cX9_toldOf 2 (some .int) (rmOf 4 95) D (tyL cI cZ cD) [.ref (A 0), .int p1] (wY A cI u) (some (.int r)) (wY A cI u1) := by
  refine Ct.ofW (by decide +kernel) (fun p e s m below meth c hC hI => ?_)
  obtain ⟨hx, hb, hml, hown, hr, hlk, hG⟩ := hC
  have hown : s.vm.findClass RX9 = some m.cls := hown
  have hl := lv_entry ([.ref (A 0), .int p1] : List Value) (n := 2) (Nat.le_of_ble_eq_true rfl)
  rw [lg_entry_eq]
  generalize (lg_sl ([.ref (A 0), .int p1] : List Value) ++ List.replicate (2 - (lg_sl ([.ref (A 0), .int p1] : List Value)).length) Slot.unset).toArray = ls at hl ⊢
  have hl : lv_has ls 2 [(0, .ref (A 0)), (1, .int p1)] := hl
  unfold X9_toldOf at hE
  refine lv_iload_n hx hb dX9_toldOf_0 rfl (lv_at hl 1 rfl) ?_
  refine lv_iconst (v := 2) hx hb dX9_toldOf_1 (by decide) ?_
  refine lv_icmp_ge (tgt := 18) hx hb dX9_toldOf_2 (by decide) (fun c2 => ?_) (fun c2 => ?_)
  · rw [if_pos c2] at hE
    refine lv_aload_n hx hb dX9_toldOf_18 rfl (lv_at hl 0 rfl) ?_
    refine lv_iload_n hx hb dX9_toldOf_19 rfl (lv_at hl 1 rfl) ?_
    refine lv_iconst (v := 1) hx hb dX9_toldOf_20 (by decide) ?_
    refine lv_isub hx hb dX9_toldOf_21 ?_
    obtain ⟨r1, mu2, hc, hE⟩ := bd2_some hE
    refine xc_V1 (rest := []) (c_X9_strangers hc) mw_X9_strangers km_X9_211 hx hb hml hown hG hI xA_of (wG_atE (by omega) eY_0) rfl rfl ⟨Nat.le_of_ble_eq_true rfl, Nat.le_of_ble_eq_true rfl⟩ rfl hl.1 rfl (Nat.le_of_ble_eq_true rfl) dX9_toldOf_22 (fun H locs hI => ?_)
    obtain ⟨rfl, rfl⟩ := sm2 hE
    exact xr_i hx hb hr hlk hG hI dX9_toldOf_25
  · rw [if_neg c2] at hE
    refine lv_aload_n hx hb dX9_toldOf_5 rfl (lv_at hl 0 rfl) ?_
    refine xg_get (C := RX9) (T := TX9) (M := 22) hx hb hown hG hI (by omega) eY_0 rfl inX9 0 (by decide) kf_X9_7 rfl dX9_toldOf_6 ?_
    refine lv_sipush (v := 256) hx hb dX9_toldOf_9 (by decide) ?_
    refine lv_iload_n hx hb dX9_toldOf_12 rfl (lv_at hl 1 rfl) ?_
    refine lv_iadd hx hb dX9_toldOf_13 ?_
    obtain ⟨v3, hv, hE⟩ := bd1_some hE
    refine xg_iald 0 hx hb hG hI (by omega) eY_1 rfl hv dX9_toldOf_14 ?_
    refine lv_goto (tgt := 25) hx hb dX9_toldOf_15 (by decide) ?_
    obtain ⟨rfl, rfl⟩ := sm2 hE
    exact xr_i hx hb hr hlk hG hI dX9_toldOf_25
def X9_told (u : Mem) (p1 : Int32) : Option (Int32 × Mem) :=
  (X9_in p1 0 3 : Option Bool).bind fun (r1 : Bool) => (if (b2i r1) = 0 then bd2 (X9_refuse u (-2)) fun (r2 : Int32) (mu3 : Mem) => some (r2, mu3) else bd2 (X9_toldOf u p1) fun (r4 : Int32) (mu5 : Mem) => some (r4, mu5))
set_option maxHeartbeats 4000000 in
set_option maxRecDepth 100000 in
theorem c_X9_told {l : Launch} {D : va_G} {A : Nat → Nat} {cI cZ cD : ClassId} {u u1 : Mem} {p1 : Int32} {r : Int32}  (hE : X9_told u p1 = some (r, u1)) : Ct l yX9_told cX9_told 2 (some .int) (rmOf 5 116) D (tyL cI cZ cD) [.ref (A 0), .int p1] (wY A cI u) (some (.int r)) (wY A cI u1) := by
  refine Ct.ofW (by decide +kernel) (fun p e s m below meth c hC hI => ?_)
  obtain ⟨hx, hb, hml, hown, hr, hlk, hG⟩ := hC
  have hown : s.vm.findClass RX9 = some m.cls := hown
  have hl := lv_entry ([.ref (A 0), .int p1] : List Value) (n := 2) (Nat.le_of_ble_eq_true rfl)
  rw [lg_entry_eq]
  generalize (lg_sl ([.ref (A 0), .int p1] : List Value) ++ List.replicate (2 - (lg_sl ([.ref (A 0), .int p1] : List Value)).length) Slot.unset).toArray = ls at hl ⊢
  have hl : lv_has ls 2 [(0, .ref (A 0)), (1, .int p1)] := hl
  unfold X9_told at hE
  refine lv_iload_n hx hb dX9_told_0 rfl (lv_at hl 1 rfl) ?_
  refine lv_iconst (v := 0) hx hb dX9_told_1 (by decide) ?_
  refine lv_iconst (v := 3) hx hb dX9_told_2 (by decide) ?_
  obtain ⟨r1, hc, hE⟩ := bd1_some hE
  refine xc_S1 (rest := []) (c_X9_in hc) mw_X9_in km_X9_68 hx hb hml hown hG hI xA_of ⟨Nat.le_of_ble_eq_true rfl, Nat.le_of_ble_eq_true rfl⟩ rfl hl.1 rfl (Nat.le_of_ble_eq_true rfl) dX9_told_3 (fun H locs hI => ?_)
  refine lv_if_eq (tgt := 17) hx hb dX9_told_6 (by decide) (fun c6 => ?_) (fun c6 => ?_)
  · rw [if_pos c6] at hE
    refine lv_aload_n hx hb dX9_told_17 rfl (lv_at hl 0 rfl) ?_
    refine lv_bipush (v := (-2)) hx hb dX9_told_18 (by decide) ?_
    obtain ⟨r2, mu3, hc, hE⟩ := bd2_some hE
    refine xc_V1 (rest := []) (c_X9_refuse hc) mw_X9_refuse km_X9_60 hx hb hml hown hG hI xA_of (wG_atE (by omega) eY_0) rfl rfl ⟨Nat.le_of_ble_eq_true rfl, Nat.le_of_ble_eq_true rfl⟩ rfl hl.1 rfl (Nat.le_of_ble_eq_true rfl) dX9_told_20 (fun H locs hI => ?_)
    obtain ⟨rfl, rfl⟩ := sm2 hE
    exact xr_i hx hb hr hlk hG hI dX9_told_23
  · rw [if_neg c6] at hE
    refine lv_aload_n hx hb dX9_told_9 rfl (lv_at hl 0 rfl) ?_
    refine lv_iload_n hx hb dX9_told_10 rfl (lv_at hl 1 rfl) ?_
    obtain ⟨r4, mu5, hc, hE⟩ := bd2_some hE
    refine xc_V1 (rest := []) (c_X9_toldOf hc) mw_X9_toldOf km_X9_214 hx hb hml hown hG hI xA_of (wG_atE (by omega) eY_0) rfl rfl ⟨Nat.le_of_ble_eq_true rfl, Nat.le_of_ble_eq_true rfl⟩ rfl hl.1 rfl (Nat.le_of_ble_eq_true rfl) dX9_told_11 (fun H locs hI => ?_)
    refine lv_goto (tgt := 23) hx hb dX9_told_14 (by decide) ?_
    obtain ⟨rfl, rfl⟩ := sm2 hE
    exact xr_i hx hb hr hlk hG hI dX9_told_23
def X9_type (u : Mem) (p1 : Int32) : Option (Int32 × Mem) :=
  (X9_in p1 0 127 : Option Bool).bind fun (r1 : Bool) => (if (b2i r1) = 0 then bd2 (X9_refuse u (-2)) fun (r6 : Int32) (mu7 : Mem) => some (r6, mu7) else (if (u 0 7) = 150 then bd2 (X9_refuse u (-4)) fun (r4 : Int32) (mu5 : Mem) => some (r4, mu5) else (stI 150 u 6 (u 0 7) p1).bind fun mu2 => (stF mu2 0 7 ((mu2 0 7) + 1)).bind fun mu3 => some (mu3 0 7, mu3)))
set_option maxHeartbeats 4000000 in
set_option maxRecDepth 100000 in
theorem c_X9_type {l : Launch} {D : va_G} {A : Nat → Nat} {cI cZ cD : ClassId} {u u1 : Mem} {p1 : Int32} {r : Int32}  (hE : X9_type u p1 = some (r, u1)) : Ct l yX9_type cX9_type 2 (some .int) (rmOf 1 22) D (tyL cI cZ cD) [.ref (A 0), .int p1] (wY A cI u) (some (.int r)) (wY A cI u1) := by
  refine Ct.ofW (by decide +kernel) (fun p e s m below meth c hC hI => ?_)
  obtain ⟨hx, hb, hml, hown, hr, hlk, hG⟩ := hC
  have hown : s.vm.findClass RX9 = some m.cls := hown
  have hl := lv_entry ([.ref (A 0), .int p1] : List Value) (n := 2) (Nat.le_of_ble_eq_true rfl)
  rw [lg_entry_eq]
  generalize (lg_sl ([.ref (A 0), .int p1] : List Value) ++ List.replicate (2 - (lg_sl ([.ref (A 0), .int p1] : List Value)).length) Slot.unset).toArray = ls at hl ⊢
  have hl : lv_has ls 2 [(0, .ref (A 0)), (1, .int p1)] := hl
  unfold X9_type at hE
  refine lv_iload_n hx hb dX9_type_0 rfl (lv_at hl 1 rfl) ?_
  refine lv_iconst (v := 0) hx hb dX9_type_1 (by decide) ?_
  refine lv_bipush (v := 127) hx hb dX9_type_2 (by decide) ?_
  obtain ⟨r1, hc, hE⟩ := bd1_some hE
  refine xc_S1 (rest := []) (c_X9_in hc) mw_X9_in km_X9_68 hx hb hml hown hG hI xA_of ⟨Nat.le_of_ble_eq_true rfl, Nat.le_of_ble_eq_true rfl⟩ rfl hl.1 rfl (Nat.le_of_ble_eq_true rfl) dX9_type_4 (fun H locs hI => ?_)
  refine lv_if_ne (tgt := 17) hx hb dX9_type_7 (by decide) (fun c7 => ?_) (fun c7 => ?_)
  · rw [if_neg c7] at hE
    refine lv_aload_n hx hb dX9_type_17 rfl (lv_at hl 0 rfl) ?_
    refine xg_get (C := RX9) (T := TX9) (M := 22) hx hb hown hG hI (by omega) eY_0 rfl inX9 7 (by decide) kf_X9_217 rfl dX9_type_18 ?_
    refine lv_sipush (v := 150) hx hb dX9_type_21 (by decide) ?_
    refine lv_icmp_ne (tgt := 34) hx hb dX9_type_24 (by decide) (fun c24 => ?_) (fun c24 => ?_)
    · rw [if_neg c24] at hE
      refine lv_aload_n hx hb dX9_type_34 rfl (lv_at hl 0 rfl) ?_
      refine xg_get (C := RX9) (T := TX9) (M := 22) hx hb hown hG hI (by omega) eY_0 rfl inX9 6 (by decide) kf_X9_25 rfl dX9_type_35 ?_
      refine lv_aload_n hx hb dX9_type_38 rfl (lv_at hl 0 rfl) ?_
      refine xg_get (C := RX9) (T := TX9) (M := 22) hx hb hown hG hI (by omega) eY_0 rfl inX9 7 (by decide) kf_X9_217 rfl dX9_type_39 ?_
      refine lv_iload_n hx hb dX9_type_42 rfl (lv_at hl 1 rfl) ?_
      obtain ⟨mu2, hv, hE⟩ := bd1_some hE
      refine xg_iast 0 hx hb hG hI (by omega) eY_6 rfl hv dX9_type_43 (fun H locs hI => ?_)
      refine lv_aload_n hx hb dX9_type_44 rfl (lv_at hl 0 rfl) ?_
      refine lv_dup hx hb dX9_type_45 rfl ?_
      refine xg_get (C := RX9) (T := TX9) (M := 22) hx hb hown hG hI (by omega) eY_0 rfl inX9 7 (by decide) kf_X9_217 rfl dX9_type_46 ?_
      refine lv_iconst (v := 1) hx hb dX9_type_49 (by decide) ?_
      refine lv_iadd hx hb dX9_type_50 ?_
      obtain ⟨mu3, hu, hE⟩ := bd1_some hE
      refine xg_put (C := RX9) (T := TX9) (M := 22) hx hb hown hG hI (by omega) eY_0 rfl inX9 tyX9 tyX9_ok nmX9 7 (by decide) kf_X9_217 rfl (ty := .int) (by decide +kernel) rfl rfl (Nat.le_of_ble_eq_true rfl) rfl hu dX9_type_51 (fun H locs hI => ?_)
      refine lv_aload_n hx hb dX9_type_54 rfl (lv_at hl 0 rfl) ?_
      refine xg_get (C := RX9) (T := TX9) (M := 22) hx hb hown hG hI (by omega) eY_0 rfl inX9 7 (by decide) kf_X9_217 rfl dX9_type_55 ?_
      obtain ⟨rfl, rfl⟩ := sm2 hE
      exact xr_i hx hb hr hlk hG hI dX9_type_58
    · rw [if_pos c24] at hE
      refine lv_aload_n hx hb dX9_type_27 rfl (lv_at hl 0 rfl) ?_
      refine lv_bipush (v := (-4)) hx hb dX9_type_28 (by decide) ?_
      obtain ⟨r4, mu5, hc, hE⟩ := bd2_some hE
      refine xc_V1 (rest := []) (c_X9_refuse hc) mw_X9_refuse km_X9_60 hx hb hml hown hG hI xA_of (wG_atE (by omega) eY_0) rfl rfl ⟨Nat.le_of_ble_eq_true rfl, Nat.le_of_ble_eq_true rfl⟩ rfl hl.1 rfl (Nat.le_of_ble_eq_true rfl) dX9_type_30 (fun H locs hI => ?_)
      obtain ⟨rfl, rfl⟩ := sm2 hE
      exact xr_i hx hb hr hlk hG hI dX9_type_33
  · rw [if_pos c7] at hE
    refine lv_aload_n hx hb dX9_type_10 rfl (lv_at hl 0 rfl) ?_
    refine lv_bipush (v := (-2)) hx hb dX9_type_11 (by decide) ?_
    obtain ⟨r6, mu7, hc, hE⟩ := bd2_some hE
    refine xc_V1 (rest := []) (c_X9_refuse hc) mw_X9_refuse km_X9_60 hx hb hml hown hG hI xA_of (wG_atE (by omega) eY_0) rfl rfl ⟨Nat.le_of_ble_eq_true rfl, Nat.le_of_ble_eq_true rfl⟩ rfl hl.1 rfl (Nat.le_of_ble_eq_true rfl) dX9_type_13 (fun H locs hI => ?_)
    obtain ⟨rfl, rfl⟩ := sm2 hE
    exact xr_i hx hb hr hlk hG hI dX9_type_16
def X9_clear (u : Mem) : Option (Int32 × Mem) :=
  (stF u 0 7 0).bind fun mu1 => some (u 0 7, mu1)
set_option maxHeartbeats 4000000 in
set_option maxRecDepth 100000 in
theorem c_X9_clear {l : Launch} {D : va_G} {A : Nat → Nat} {cI cZ cD : ClassId} {u u1 : Mem} {r : Int32}  (hE : X9_clear u = some (r, u1)) : Ct l yX9_clear cX9_clear 2 (some .int) (rmOf 0 0) D (tyL cI cZ cD) [.ref (A 0)] (wY A cI u) (some (.int r)) (wY A cI u1) := by
  refine Ct.ofW (by decide +kernel) (fun p e s m below meth c hC hI => ?_)
  obtain ⟨hx, hb, hml, hown, hr, hlk, hG⟩ := hC
  have hown : s.vm.findClass RX9 = some m.cls := hown
  have hl := lv_entry ([.ref (A 0)] : List Value) (n := 2) (Nat.le_of_ble_eq_true rfl)
  rw [lg_entry_eq]
  generalize (lg_sl ([.ref (A 0)] : List Value) ++ List.replicate (2 - (lg_sl ([.ref (A 0)] : List Value)).length) Slot.unset).toArray = ls at hl ⊢
  have hl : lv_has ls 2 [(0, .ref (A 0))] := hl
  unfold X9_clear at hE
  refine lv_aload_n hx hb dX9_clear_0 rfl (lv_at hl 0 rfl) ?_
  refine xg_get (C := RX9) (T := TX9) (M := 22) hx hb hown hG hI (by omega) eY_0 rfl inX9 7 (by decide) kf_X9_217 rfl dX9_clear_1 ?_
  refine lv_istore_n (lv' := [(1, .int (u 0 7)), (0, .ref (A 0))]) hx hb dX9_clear_4 rfl hl (by decide) rfl (fun ls hl => ?_)
  refine lv_aload_n hx hb dX9_clear_5 rfl (lv_at hl 1 rfl) ?_
  refine lv_iconst (v := 0) hx hb dX9_clear_6 (by decide) ?_
  obtain ⟨mu1, hu, hE⟩ := bd1_some hE
  refine xg_put (C := RX9) (T := TX9) (M := 22) hx hb hown hG hI (by omega) eY_0 rfl inX9 tyX9 tyX9_ok nmX9 7 (by decide) kf_X9_217 rfl (ty := .int) (by decide +kernel) rfl rfl (Nat.le_of_ble_eq_true rfl) rfl hu dX9_clear_7 (fun H locs hI => ?_)
  refine lv_iload_n hx hb dX9_clear_10 rfl (lv_at hl 0 rfl) ?_
  obtain ⟨rfl, rfl⟩ := sm2 hE
  exact xr_i hx hb hr hlk hG hI dX9_clear_11
def X9_readByte (u : Mem) (p1 : Int32) : Option (Bool × Mem) :=
  (if (u 0 19) = 0 then ((if p1 = 32 then some 0 else some p1) : Option Int32).bind fun (x31 : Int32) => (stF u 0 19 x31).bind fun mu33 => (stF mu33 0 20 0).bind fun mu34 => (stF mu34 0 21 0).bind fun mu35 => (stI 150 mu35 7 (mu35 0 11) p1).bind fun mu36 => (if p1 = 32 then some (true, mu36) else (X9_wantsOf p1 : Option Int32).bind fun (r37 : Int32) => (if r37 = (-1) then some (false, mu36) else some (true, mu36))) else (if p1 = 32 then (stF u 0 21 0).bind fun mu30 => some (true, mu30) else (X9_in p1 48 57 : Option Bool).bind fun (r1 : Bool) => (if (b2i r1) = 0 then (if p1 = 59 then (X9_wantsOf (u 0 19) : Option Int32).bind fun (r2 : Int32) => (if r2 ≤ (u 0 20) then (stF u 0 19 0).bind fun mu3 => (rd 151 (mu3 8) (mu3 0 11)).bind fun v4 => (stI 151 mu3 8 ((mu3 0 11) + 1) (v4 + (mu3 0 20))).bind fun mu5 => (stF mu5 0 11 ((mu5 0 11) + 1)).bind fun mu6 => some (true, mu6) else some (false, u)) else some (false, u)) else (if (u 0 21) = 2 then some (false, u) else (if (u 0 21) = 0 then (X9_wantsOf (u 0 19) : Option Int32).bind fun (r18 : Int32) => (if (u 0 20) = r18 then some (false, u) else (rd 151 (u 8) (u 0 11)).bind fun v19 => ((if (u 0 21) = 0 then some 0 else some 1) : Option Int32).bind fun (x20 : Int32) => ((if (u 0 21) = 0 then some 0 else (rd 150 (u 9) ((v19 + (u 0 20)) - x20)).bind fun v29 => some (10 * v29)) : Option Int32).bind fun (x22 : Int32) => (stI 150 u 9 ((v19 + (u 0 20)) - x20) ((x22 + p1) - 48)).bind fun mu24 => ((if (mu24 0 21) = 0 then some 1 else some 0) : Option Int32).bind fun (x25 : Int32) => (stF mu24 0 20 ((mu24 0 20) + x25)).bind fun mu27 => (stF mu27 0 21 ((mu27 0 21) + 1)).bind fun mu28 => some (true, mu28)) else (rd 151 (u 8) (u 0 11)).bind fun v7 => ((if (u 0 21) = 0 then some 0 else some 1) : Option Int32).bind fun (x8 : Int32) => ((if (u 0 21) = 0 then some 0 else (rd 150 (u 9) ((v7 + (u 0 20)) - x8)).bind fun v17 => some (10 * v17)) : Option Int32).bind fun (x10 : Int32) => (stI 150 u 9 ((v7 + (u 0 20)) - x8) ((x10 + p1) - 48)).bind fun mu12 => ((if (mu12 0 21) = 0 then some 1 else some 0) : Option Int32).bind fun (x13 : Int32) => (stF mu12 0 20 ((mu12 0 20) + x13)).bind fun mu15 => (stF mu15 0 21 ((mu15 0 21) + 1)).bind fun mu16 => some (true, mu16))))))
set_option maxHeartbeats 4000000 in
set_option maxRecDepth 100000 in
theorem c_X9_readByte {l : Launch} {D : va_G} {A : Nat → Nat} {cI cZ cD : ClassId} {u u1 : Mem} {p1 : Int32} {r : Bool}  (hE : X9_readByte u p1 = some (r, u1)) : Ct l yX9_readByte cX9_readByte 3 (some .boolean) (rmOf 1 22) D (tyL cI cZ cD) [.ref (A 0), .int p1] (wY A cI u) (some (.int (b2i r))) (wY A cI u1) := by
  refine Ct.ofW (by decide +kernel) (fun p e s m below meth c hC hI => ?_)
  obtain ⟨hx, hb, hml, hown, hr, hlk, hG⟩ := hC
  have hown : s.vm.findClass RX9 = some m.cls := hown
  have hl := lv_entry ([.ref (A 0), .int p1] : List Value) (n := 3) (Nat.le_of_ble_eq_true rfl)
  rw [lg_entry_eq]
  generalize (lg_sl ([.ref (A 0), .int p1] : List Value) ++ List.replicate (3 - (lg_sl ([.ref (A 0), .int p1] : List Value)).length) Slot.unset).toArray = ls at hl ⊢
  have hl : lv_has ls 3 [(0, .ref (A 0)), (1, .int p1)] := hl
  unfold X9_readByte at hE
  refine lv_aload_n hx hb dX9_readByte_0 rfl (lv_at hl 0 rfl) ?_
  refine xg_get (C := RX9) (T := TX9) (M := 22) hx hb hown hG hI (by omega) eY_0 rfl inX9 19 (by decide) kf_X9_220 rfl dX9_readByte_1 ?_
  refine lv_if_ne (tgt := 62) hx hb dX9_readByte_4 (by decide) (fun c4 => ?_) (fun c4 => ?_)
  · rw [if_neg c4] at hE
    refine lv_iload_n hx hb dX9_readByte_62 rfl (lv_at hl 1 rfl) ?_
    refine lv_bipush (v := 32) hx hb dX9_readByte_63 (by decide) ?_
    refine lv_icmp_ne (tgt := 75) hx hb dX9_readByte_65 (by decide) (fun c65 => ?_) (fun c65 => ?_)
    · rw [if_neg c65] at hE
      refine lv_iload_n hx hb dX9_readByte_75 rfl (lv_at hl 1 rfl) ?_
      refine lv_bipush (v := 48) hx hb dX9_readByte_76 (by decide) ?_
      refine lv_bipush (v := 57) hx hb dX9_readByte_78 (by decide) ?_
      obtain ⟨r1, hc, hE⟩ := bd1_some hE
      refine xc_S1 (rest := []) (c_X9_in hc) mw_X9_in km_X9_68 hx hb hml hown hG hI xA_of ⟨Nat.le_of_ble_eq_true rfl, Nat.le_of_ble_eq_true rfl⟩ rfl hl.1 rfl (Nat.le_of_ble_eq_true rfl) dX9_readByte_80 (fun H locs hI => ?_)
      refine lv_if_eq (tgt := 209) hx hb dX9_readByte_83 (by decide) (fun c83 => ?_) (fun c83 => ?_)
      · rw [if_pos c83] at hE
        refine lv_iload_n hx hb dX9_readByte_209 rfl (lv_at hl 1 rfl) ?_
        refine lv_bipush (v := 59) hx hb dX9_readByte_210 (by decide) ?_
        refine lv_icmp_ne (tgt := 229) hx hb dX9_readByte_212 (by decide) (fun c212 => ?_) (fun c212 => ?_)
        · rw [if_neg c212] at hE
          refine lv_iconst (v := 0) hx hb dX9_readByte_229 (by decide) ?_
          obtain ⟨rfl, rfl⟩ := sm2 hE
          exact xr_z rfl hx hb hr hlk hG hI dX9_readByte_230
        · rw [if_pos c212] at hE
          refine lv_aload_n hx hb dX9_readByte_215 rfl (lv_at hl 0 rfl) ?_
          refine xg_get (C := RX9) (T := TX9) (M := 22) hx hb hown hG hI (by omega) eY_0 rfl inX9 20 (by decide) kf_X9_223 rfl dX9_readByte_216 ?_
          refine lv_aload_n hx hb dX9_readByte_219 rfl (lv_at hl 0 rfl) ?_
          refine xg_get (C := RX9) (T := TX9) (M := 22) hx hb hown hG hI (by omega) eY_0 rfl inX9 19 (by decide) kf_X9_220 rfl dX9_readByte_220 ?_
          obtain ⟨r2, hc, hE⟩ := bd1_some hE
          refine xc_S1 (rest := [.int (u 0 20)]) (c_X9_wantsOf hc) mw_X9_wantsOf km_X9_232 hx hb hml hown hG hI xA_of ⟨Nat.le_of_ble_eq_true rfl, Nat.le_of_ble_eq_true rfl⟩ rfl hl.1 rfl (Nat.le_of_ble_eq_true rfl) dX9_readByte_223 (fun H locs hI => ?_)
          refine lv_icmp_ge (tgt := 231) hx hb dX9_readByte_226 (by decide) (fun c226 => ?_) (fun c226 => ?_)
          · rw [if_pos c226] at hE
            refine lv_aload_n hx hb dX9_readByte_231 rfl (lv_at hl 0 rfl) ?_
            refine lv_iconst (v := 0) hx hb dX9_readByte_232 (by decide) ?_
            obtain ⟨mu3, hu, hE⟩ := bd1_some hE
            refine xg_put (C := RX9) (T := TX9) (M := 22) hx hb hown hG hI (by omega) eY_0 rfl inX9 tyX9 tyX9_ok nmX9 19 (by decide) kf_X9_220 rfl (ty := .int) (by decide +kernel) rfl rfl (Nat.le_of_ble_eq_true rfl) rfl hu dX9_readByte_233 (fun H locs hI => ?_)
            refine lv_aload_n hx hb dX9_readByte_236 rfl (lv_at hl 0 rfl) ?_
            refine xg_get (C := RX9) (T := TX9) (M := 22) hx hb hown hG hI (by omega) eY_0 rfl inX9 9 (by decide) kf_X9_31 rfl dX9_readByte_237 ?_
            refine lv_aload_n hx hb dX9_readByte_240 rfl (lv_at hl 0 rfl) ?_
            refine xg_get (C := RX9) (T := TX9) (M := 22) hx hb hown hG hI (by omega) eY_0 rfl inX9 11 (by decide) kf_X9_229 rfl dX9_readByte_241 ?_
            refine lv_iconst (v := 1) hx hb dX9_readByte_244 (by decide) ?_
            refine lv_iadd hx hb dX9_readByte_245 ?_
            refine lv_aload_n hx hb dX9_readByte_246 rfl (lv_at hl 0 rfl) ?_
            refine xg_get (C := RX9) (T := TX9) (M := 22) hx hb hown hG hI (by omega) eY_0 rfl inX9 9 (by decide) kf_X9_31 rfl dX9_readByte_247 ?_
            refine lv_aload_n hx hb dX9_readByte_250 rfl (lv_at hl 0 rfl) ?_
            refine xg_get (C := RX9) (T := TX9) (M := 22) hx hb hown hG hI (by omega) eY_0 rfl inX9 11 (by decide) kf_X9_229 rfl dX9_readByte_251 ?_
            obtain ⟨v4, hv, hE⟩ := bd1_some hE
            refine xg_iald 0 hx hb hG hI (by omega) eY_8 rfl hv dX9_readByte_254 ?_
            refine lv_aload_n hx hb dX9_readByte_255 rfl (lv_at hl 0 rfl) ?_
            refine xg_get (C := RX9) (T := TX9) (M := 22) hx hb hown hG hI (by omega) eY_0 rfl inX9 20 (by decide) kf_X9_223 rfl dX9_readByte_256 ?_
            refine lv_iadd hx hb dX9_readByte_259 ?_
            obtain ⟨mu5, hv, hE⟩ := bd1_some hE
            refine xg_iast 0 hx hb hG hI (by omega) eY_8 rfl hv dX9_readByte_260 (fun H locs hI => ?_)
            refine lv_aload_n hx hb dX9_readByte_261 rfl (lv_at hl 0 rfl) ?_
            refine lv_dup hx hb dX9_readByte_262 rfl ?_
            refine xg_get (C := RX9) (T := TX9) (M := 22) hx hb hown hG hI (by omega) eY_0 rfl inX9 11 (by decide) kf_X9_229 rfl dX9_readByte_263 ?_
            refine lv_iconst (v := 1) hx hb dX9_readByte_266 (by decide) ?_
            refine lv_iadd hx hb dX9_readByte_267 ?_
            obtain ⟨mu6, hu, hE⟩ := bd1_some hE
            refine xg_put (C := RX9) (T := TX9) (M := 22) hx hb hown hG hI (by omega) eY_0 rfl inX9 tyX9 tyX9_ok nmX9 11 (by decide) kf_X9_229 rfl (ty := .int) (by decide +kernel) rfl rfl (Nat.le_of_ble_eq_true rfl) rfl hu dX9_readByte_268 (fun H locs hI => ?_)
            refine lv_iconst (v := 1) hx hb dX9_readByte_271 (by decide) ?_
            obtain ⟨rfl, rfl⟩ := sm2 hE
            exact xr_z rfl hx hb hr hlk hG hI dX9_readByte_272
          · rw [if_neg c226] at hE
            refine lv_iconst (v := 0) hx hb dX9_readByte_229 (by decide) ?_
            obtain ⟨rfl, rfl⟩ := sm2 hE
            exact xr_z rfl hx hb hr hlk hG hI dX9_readByte_230
      · rw [if_neg c83] at hE
        refine lv_aload_n hx hb dX9_readByte_86 rfl (lv_at hl 0 rfl) ?_
        refine xg_get (C := RX9) (T := TX9) (M := 22) hx hb hown hG hI (by omega) eY_0 rfl inX9 21 (by decide) kf_X9_226 rfl dX9_readByte_87 ?_
        refine lv_iconst (v := 2) hx hb dX9_readByte_90 (by decide) ?_
        refine lv_icmp_eq (tgt := 115) hx hb dX9_readByte_91 (by decide) (fun c91 => ?_) (fun c91 => ?_)
        · rw [if_pos c91] at hE
          refine lv_iconst (v := 0) hx hb dX9_readByte_115 (by decide) ?_
          obtain ⟨rfl, rfl⟩ := sm2 hE
          exact xr_z rfl hx hb hr hlk hG hI dX9_readByte_116
        · rw [if_neg c91] at hE
          refine lv_aload_n hx hb dX9_readByte_94 rfl (lv_at hl 0 rfl) ?_
          refine xg_get (C := RX9) (T := TX9) (M := 22) hx hb hown hG hI (by omega) eY_0 rfl inX9 21 (by decide) kf_X9_226 rfl dX9_readByte_95 ?_
          refine lv_if_ne (tgt := 117) hx hb dX9_readByte_98 (by decide) (fun c98 => ?_) (fun c98 => ?_)
          · rw [if_neg c98] at hE
            refine lv_aload_n hx hb dX9_readByte_117 rfl (lv_at hl 0 rfl) ?_
            refine xg_get (C := RX9) (T := TX9) (M := 22) hx hb hown hG hI (by omega) eY_0 rfl inX9 9 (by decide) kf_X9_31 rfl dX9_readByte_118 ?_
            refine lv_aload_n hx hb dX9_readByte_121 rfl (lv_at hl 0 rfl) ?_
            refine xg_get (C := RX9) (T := TX9) (M := 22) hx hb hown hG hI (by omega) eY_0 rfl inX9 11 (by decide) kf_X9_229 rfl dX9_readByte_122 ?_
            obtain ⟨v7, hv, hE⟩ := bd1_some hE
            refine xg_iald 0 hx hb hG hI (by omega) eY_8 rfl hv dX9_readByte_125 ?_
            refine lv_aload_n hx hb dX9_readByte_126 rfl (lv_at hl 0 rfl) ?_
            refine xg_get (C := RX9) (T := TX9) (M := 22) hx hb hown hG hI (by omega) eY_0 rfl inX9 20 (by decide) kf_X9_223 rfl dX9_readByte_127 ?_
            refine lv_iadd hx hb dX9_readByte_130 ?_
            refine lv_aload_n hx hb dX9_readByte_131 rfl (lv_at hl 0 rfl) ?_
            refine xg_get (C := RX9) (T := TX9) (M := 22) hx hb hown hG hI (by omega) eY_0 rfl inX9 21 (by decide) kf_X9_226 rfl dX9_readByte_132 ?_
            obtain ⟨x8, hZ, hE⟩ := bd1_some hE
            have hJ143_8 : ∀ (H : Heap) (locs : List Loc) (ls : Array Slot), xI D (va_A (wY A cI u) s.heap.size) s.heap (wY A cI u) H locs → lv_has ls 3 [(0, .ref (A 0)), (1, .int p1)] → W p l e (rmOf 1 22) s m ([.ref (A 0), .int p1] : List Value).toArray below meth c H locs 0 0 (xQ D (tyL cI cZ cD) below ([.ref (A 0), .int p1] : List Value).toArray s (wY A cI u) (some (.int (b2i r))) (wY A cI u1)) (F0 m 143 ls [.int x8, .int (v7 + (u 0 20))]) := by
              intro H locs ls hI hl
              clear hZ
              refine lv_isub hx hb dX9_readByte_143 ?_
              refine lv_istore_n (lv' := [(2, .int ((v7 + (u 0 20)) - x8)), (0, .ref (A 0)), (1, .int p1)]) hx hb dX9_readByte_144 rfl hl (by decide) rfl (fun ls hl => ?_)
              refine lv_aload_n hx hb dX9_readByte_145 rfl (lv_at hl 1 rfl) ?_
              refine xg_get (C := RX9) (T := TX9) (M := 22) hx hb hown hG hI (by omega) eY_0 rfl inX9 10 (by decide) kf_X9_34 rfl dX9_readByte_146 ?_
              refine lv_iload_n hx hb dX9_readByte_149 rfl (lv_at hl 0 rfl) ?_
              refine lv_aload_n hx hb dX9_readByte_150 rfl (lv_at hl 1 rfl) ?_
              refine xg_get (C := RX9) (T := TX9) (M := 22) hx hb hown hG hI (by omega) eY_0 rfl inX9 21 (by decide) kf_X9_226 rfl dX9_readByte_151 ?_
              obtain ⟨x10, hZ, hE⟩ := bd1_some hE
              have hJ170_10 : ∀ (H : Heap) (locs : List Loc) (ls : Array Slot), xI D (va_A (wY A cI u) s.heap.size) s.heap (wY A cI u) H locs → lv_has ls 3 [(0, .ref (A 0)), (1, .int p1)] → W p l e (rmOf 1 22) s m ([.ref (A 0), .int p1] : List Value).toArray below meth c H locs 0 0 (xQ D (tyL cI cZ cD) below ([.ref (A 0), .int p1] : List Value).toArray s (wY A cI u) (some (.int (b2i r))) (wY A cI u1)) (F0 m 170 ls [.int x10, .int ((v7 + (u 0 20)) - x8), .ref (A 9)]) := by
                intro H locs ls hI hl
                clear hZ
                refine lv_iload_n hx hb dX9_readByte_170 rfl (lv_at hl 1 rfl) ?_
                refine lv_iadd hx hb dX9_readByte_171 ?_
                refine lv_bipush (v := 48) hx hb dX9_readByte_172 (by decide) ?_
                refine lv_isub hx hb dX9_readByte_174 ?_
                obtain ⟨mu12, hv, hE⟩ := bd1_some hE
                refine xg_iast 0 hx hb hG hI (by omega) eY_9 rfl hv dX9_readByte_175 (fun H locs hI => ?_)
                refine lv_aload_n hx hb dX9_readByte_176 rfl (lv_at hl 0 rfl) ?_
                refine lv_dup hx hb dX9_readByte_177 rfl ?_
                refine xg_get (C := RX9) (T := TX9) (M := 22) hx hb hown hG hI (by omega) eY_0 rfl inX9 20 (by decide) kf_X9_223 rfl dX9_readByte_178 ?_
                refine lv_aload_n hx hb dX9_readByte_181 rfl (lv_at hl 0 rfl) ?_
                refine xg_get (C := RX9) (T := TX9) (M := 22) hx hb hown hG hI (by omega) eY_0 rfl inX9 21 (by decide) kf_X9_226 rfl dX9_readByte_182 ?_
                obtain ⟨x13, hZ, hE⟩ := bd1_some hE
                have hJ193_13 : ∀ (H : Heap) (locs : List Loc) (ls : Array Slot), xI D (va_A (wY A cI u) s.heap.size) s.heap (wY A cI mu12) H locs → lv_has ls 3 [(0, .ref (A 0))] → W p l e (rmOf 1 22) s m ([.ref (A 0), .int p1] : List Value).toArray below meth c H locs 0 0 (xQ D (tyL cI cZ cD) below ([.ref (A 0), .int p1] : List Value).toArray s (wY A cI u) (some (.int (b2i r))) (wY A cI u1)) (F0 m 193 ls [.int x13, .int (mu12 0 20), .ref (A 0)]) := by
                  intro H locs ls hI hl
                  clear hZ
                  refine lv_iadd hx hb dX9_readByte_193 ?_
                  obtain ⟨mu15, hu, hE⟩ := bd1_some hE
                  refine xg_put (C := RX9) (T := TX9) (M := 22) hx hb hown hG hI (by omega) eY_0 rfl inX9 tyX9 tyX9_ok nmX9 20 (by decide) kf_X9_223 rfl (ty := .int) (by decide +kernel) rfl rfl (Nat.le_of_ble_eq_true rfl) rfl hu dX9_readByte_194 (fun H locs hI => ?_)
                  refine lv_aload_n hx hb dX9_readByte_197 rfl (lv_at hl 0 rfl) ?_
                  refine lv_dup hx hb dX9_readByte_198 rfl ?_
                  refine xg_get (C := RX9) (T := TX9) (M := 22) hx hb hown hG hI (by omega) eY_0 rfl inX9 21 (by decide) kf_X9_226 rfl dX9_readByte_199 ?_
                  refine lv_iconst (v := 1) hx hb dX9_readByte_202 (by decide) ?_
                  refine lv_iadd hx hb dX9_readByte_203 ?_
                  obtain ⟨mu16, hu, hE⟩ := bd1_some hE
                  refine xg_put (C := RX9) (T := TX9) (M := 22) hx hb hown hG hI (by omega) eY_0 rfl inX9 tyX9 tyX9_ok nmX9 21 (by decide) kf_X9_226 rfl (ty := .int) (by decide +kernel) rfl rfl (Nat.le_of_ble_eq_true rfl) rfl hu dX9_readByte_204 (fun H locs hI => ?_)
                  refine lv_iconst (v := 1) hx hb dX9_readByte_207 (by decide) ?_
                  obtain ⟨rfl, rfl⟩ := sm2 hE
                  exact xr_z rfl hx hb hr hlk hG hI dX9_readByte_208
                replace hE := hZ
                clear hZ
                refine lv_if_ne (tgt := 192) hx hb dX9_readByte_185 (by decide) (fun c185 => ?_) (fun c185 => ?_)
                · rw [if_neg c185] at hE
                  refine lv_iconst (v := 0) hx hb dX9_readByte_192 (by decide) ?_
                  obtain rfl := sm1 hE
                  exact hJ193_13 _ _ _ hI (lv_sub hl [0] rfl)
                · rw [if_pos c185] at hE
                  refine lv_iconst (v := 1) hx hb dX9_readByte_188 (by decide) ?_
                  refine lv_goto (tgt := 193) hx hb dX9_readByte_189 (by decide) ?_
                  obtain rfl := sm1 hE
                  exact hJ193_13 _ _ _ hI (lv_sub hl [0] rfl)
              replace hE := hZ
              clear hZ
              refine lv_if_ne (tgt := 161) hx hb dX9_readByte_154 (by decide) (fun c154 => ?_) (fun c154 => ?_)
              · rw [if_neg c154] at hE
                refine lv_bipush (v := 10) hx hb dX9_readByte_161 (by decide) ?_
                refine lv_aload_n hx hb dX9_readByte_163 rfl (lv_at hl 1 rfl) ?_
                refine xg_get (C := RX9) (T := TX9) (M := 22) hx hb hown hG hI (by omega) eY_0 rfl inX9 10 (by decide) kf_X9_34 rfl dX9_readByte_164 ?_
                refine lv_iload_n hx hb dX9_readByte_167 rfl (lv_at hl 0 rfl) ?_
                obtain ⟨v17, hv, hE⟩ := bd1_some hE
                refine xg_iald 0 hx hb hG hI (by omega) eY_9 rfl hv dX9_readByte_168 ?_
                refine lv_imul hx hb dX9_readByte_169 ?_
                obtain rfl := sm1 hE
                exact hJ170_10 _ _ _ hI (lv_sub hl [1, 2] rfl)
              · rw [if_pos c154] at hE
                refine lv_iconst (v := 0) hx hb dX9_readByte_157 (by decide) ?_
                refine lv_goto (tgt := 170) hx hb dX9_readByte_158 (by decide) ?_
                obtain rfl := sm1 hE
                exact hJ170_10 _ _ _ hI (lv_sub hl [1, 2] rfl)
            replace hE := hZ
            clear hZ
            refine lv_if_ne (tgt := 142) hx hb dX9_readByte_135 (by decide) (fun c135 => ?_) (fun c135 => ?_)
            · rw [if_neg c135] at hE
              refine lv_iconst (v := 1) hx hb dX9_readByte_142 (by decide) ?_
              obtain rfl := sm1 hE
              exact hJ143_8 _ _ _ hI (lv_sub hl [0, 1] rfl)
            · rw [if_pos c135] at hE
              refine lv_iconst (v := 0) hx hb dX9_readByte_138 (by decide) ?_
              refine lv_goto (tgt := 143) hx hb dX9_readByte_139 (by decide) ?_
              obtain rfl := sm1 hE
              exact hJ143_8 _ _ _ hI (lv_sub hl [0, 1] rfl)
          · rw [if_pos c98] at hE
            refine lv_aload_n hx hb dX9_readByte_101 rfl (lv_at hl 0 rfl) ?_
            refine xg_get (C := RX9) (T := TX9) (M := 22) hx hb hown hG hI (by omega) eY_0 rfl inX9 20 (by decide) kf_X9_223 rfl dX9_readByte_102 ?_
            refine lv_aload_n hx hb dX9_readByte_105 rfl (lv_at hl 0 rfl) ?_
            refine xg_get (C := RX9) (T := TX9) (M := 22) hx hb hown hG hI (by omega) eY_0 rfl inX9 19 (by decide) kf_X9_220 rfl dX9_readByte_106 ?_
            obtain ⟨r18, hc, hE⟩ := bd1_some hE
            refine xc_S1 (rest := [.int (u 0 20)]) (c_X9_wantsOf hc) mw_X9_wantsOf km_X9_232 hx hb hml hown hG hI xA_of ⟨Nat.le_of_ble_eq_true rfl, Nat.le_of_ble_eq_true rfl⟩ rfl hl.1 rfl (Nat.le_of_ble_eq_true rfl) dX9_readByte_109 (fun H locs hI => ?_)
            refine lv_icmp_ne (tgt := 117) hx hb dX9_readByte_112 (by decide) (fun c112 => ?_) (fun c112 => ?_)
            · rw [if_neg c112] at hE
              refine lv_aload_n hx hb dX9_readByte_117 rfl (lv_at hl 0 rfl) ?_
              refine xg_get (C := RX9) (T := TX9) (M := 22) hx hb hown hG hI (by omega) eY_0 rfl inX9 9 (by decide) kf_X9_31 rfl dX9_readByte_118 ?_
              refine lv_aload_n hx hb dX9_readByte_121 rfl (lv_at hl 0 rfl) ?_
              refine xg_get (C := RX9) (T := TX9) (M := 22) hx hb hown hG hI (by omega) eY_0 rfl inX9 11 (by decide) kf_X9_229 rfl dX9_readByte_122 ?_
              obtain ⟨v19, hv, hE⟩ := bd1_some hE
              refine xg_iald 0 hx hb hG hI (by omega) eY_8 rfl hv dX9_readByte_125 ?_
              refine lv_aload_n hx hb dX9_readByte_126 rfl (lv_at hl 0 rfl) ?_
              refine xg_get (C := RX9) (T := TX9) (M := 22) hx hb hown hG hI (by omega) eY_0 rfl inX9 20 (by decide) kf_X9_223 rfl dX9_readByte_127 ?_
              refine lv_iadd hx hb dX9_readByte_130 ?_
              refine lv_aload_n hx hb dX9_readByte_131 rfl (lv_at hl 0 rfl) ?_
              refine xg_get (C := RX9) (T := TX9) (M := 22) hx hb hown hG hI (by omega) eY_0 rfl inX9 21 (by decide) kf_X9_226 rfl dX9_readByte_132 ?_
              obtain ⟨x20, hZ, hE⟩ := bd1_some hE
              have hJ143_20 : ∀ (H : Heap) (locs : List Loc) (ls : Array Slot), xI D (va_A (wY A cI u) s.heap.size) s.heap (wY A cI u) H locs → lv_has ls 3 [(0, .ref (A 0)), (1, .int p1)] → W p l e (rmOf 1 22) s m ([.ref (A 0), .int p1] : List Value).toArray below meth c H locs 0 0 (xQ D (tyL cI cZ cD) below ([.ref (A 0), .int p1] : List Value).toArray s (wY A cI u) (some (.int (b2i r))) (wY A cI u1)) (F0 m 143 ls [.int x20, .int (v19 + (u 0 20))]) := by
                intro H locs ls hI hl
                clear hZ
                refine lv_isub hx hb dX9_readByte_143 ?_
                refine lv_istore_n (lv' := [(2, .int ((v19 + (u 0 20)) - x20)), (0, .ref (A 0)), (1, .int p1)]) hx hb dX9_readByte_144 rfl hl (by decide) rfl (fun ls hl => ?_)
                refine lv_aload_n hx hb dX9_readByte_145 rfl (lv_at hl 1 rfl) ?_
                refine xg_get (C := RX9) (T := TX9) (M := 22) hx hb hown hG hI (by omega) eY_0 rfl inX9 10 (by decide) kf_X9_34 rfl dX9_readByte_146 ?_
                refine lv_iload_n hx hb dX9_readByte_149 rfl (lv_at hl 0 rfl) ?_
                refine lv_aload_n hx hb dX9_readByte_150 rfl (lv_at hl 1 rfl) ?_
                refine xg_get (C := RX9) (T := TX9) (M := 22) hx hb hown hG hI (by omega) eY_0 rfl inX9 21 (by decide) kf_X9_226 rfl dX9_readByte_151 ?_
                obtain ⟨x22, hZ, hE⟩ := bd1_some hE
                have hJ170_22 : ∀ (H : Heap) (locs : List Loc) (ls : Array Slot), xI D (va_A (wY A cI u) s.heap.size) s.heap (wY A cI u) H locs → lv_has ls 3 [(0, .ref (A 0)), (1, .int p1)] → W p l e (rmOf 1 22) s m ([.ref (A 0), .int p1] : List Value).toArray below meth c H locs 0 0 (xQ D (tyL cI cZ cD) below ([.ref (A 0), .int p1] : List Value).toArray s (wY A cI u) (some (.int (b2i r))) (wY A cI u1)) (F0 m 170 ls [.int x22, .int ((v19 + (u 0 20)) - x20), .ref (A 9)]) := by
                  intro H locs ls hI hl
                  clear hZ
                  refine lv_iload_n hx hb dX9_readByte_170 rfl (lv_at hl 1 rfl) ?_
                  refine lv_iadd hx hb dX9_readByte_171 ?_
                  refine lv_bipush (v := 48) hx hb dX9_readByte_172 (by decide) ?_
                  refine lv_isub hx hb dX9_readByte_174 ?_
                  obtain ⟨mu24, hv, hE⟩ := bd1_some hE
                  refine xg_iast 0 hx hb hG hI (by omega) eY_9 rfl hv dX9_readByte_175 (fun H locs hI => ?_)
                  refine lv_aload_n hx hb dX9_readByte_176 rfl (lv_at hl 0 rfl) ?_
                  refine lv_dup hx hb dX9_readByte_177 rfl ?_
                  refine xg_get (C := RX9) (T := TX9) (M := 22) hx hb hown hG hI (by omega) eY_0 rfl inX9 20 (by decide) kf_X9_223 rfl dX9_readByte_178 ?_
                  refine lv_aload_n hx hb dX9_readByte_181 rfl (lv_at hl 0 rfl) ?_
                  refine xg_get (C := RX9) (T := TX9) (M := 22) hx hb hown hG hI (by omega) eY_0 rfl inX9 21 (by decide) kf_X9_226 rfl dX9_readByte_182 ?_
                  obtain ⟨x25, hZ, hE⟩ := bd1_some hE
                  have hJ193_25 : ∀ (H : Heap) (locs : List Loc) (ls : Array Slot), xI D (va_A (wY A cI u) s.heap.size) s.heap (wY A cI mu24) H locs → lv_has ls 3 [(0, .ref (A 0))] → W p l e (rmOf 1 22) s m ([.ref (A 0), .int p1] : List Value).toArray below meth c H locs 0 0 (xQ D (tyL cI cZ cD) below ([.ref (A 0), .int p1] : List Value).toArray s (wY A cI u) (some (.int (b2i r))) (wY A cI u1)) (F0 m 193 ls [.int x25, .int (mu24 0 20), .ref (A 0)]) := by
                    intro H locs ls hI hl
                    clear hZ
                    refine lv_iadd hx hb dX9_readByte_193 ?_
                    obtain ⟨mu27, hu, hE⟩ := bd1_some hE
                    refine xg_put (C := RX9) (T := TX9) (M := 22) hx hb hown hG hI (by omega) eY_0 rfl inX9 tyX9 tyX9_ok nmX9 20 (by decide) kf_X9_223 rfl (ty := .int) (by decide +kernel) rfl rfl (Nat.le_of_ble_eq_true rfl) rfl hu dX9_readByte_194 (fun H locs hI => ?_)
                    refine lv_aload_n hx hb dX9_readByte_197 rfl (lv_at hl 0 rfl) ?_
                    refine lv_dup hx hb dX9_readByte_198 rfl ?_
                    refine xg_get (C := RX9) (T := TX9) (M := 22) hx hb hown hG hI (by omega) eY_0 rfl inX9 21 (by decide) kf_X9_226 rfl dX9_readByte_199 ?_
                    refine lv_iconst (v := 1) hx hb dX9_readByte_202 (by decide) ?_
                    refine lv_iadd hx hb dX9_readByte_203 ?_
                    obtain ⟨mu28, hu, hE⟩ := bd1_some hE
                    refine xg_put (C := RX9) (T := TX9) (M := 22) hx hb hown hG hI (by omega) eY_0 rfl inX9 tyX9 tyX9_ok nmX9 21 (by decide) kf_X9_226 rfl (ty := .int) (by decide +kernel) rfl rfl (Nat.le_of_ble_eq_true rfl) rfl hu dX9_readByte_204 (fun H locs hI => ?_)
                    refine lv_iconst (v := 1) hx hb dX9_readByte_207 (by decide) ?_
                    obtain ⟨rfl, rfl⟩ := sm2 hE
                    exact xr_z rfl hx hb hr hlk hG hI dX9_readByte_208
                  replace hE := hZ
                  clear hZ
                  refine lv_if_ne (tgt := 192) hx hb dX9_readByte_185 (by decide) (fun c185 => ?_) (fun c185 => ?_)
                  · rw [if_neg c185] at hE
                    refine lv_iconst (v := 0) hx hb dX9_readByte_192 (by decide) ?_
                    obtain rfl := sm1 hE
                    exact hJ193_25 _ _ _ hI (lv_sub hl [0] rfl)
                  · rw [if_pos c185] at hE
                    refine lv_iconst (v := 1) hx hb dX9_readByte_188 (by decide) ?_
                    refine lv_goto (tgt := 193) hx hb dX9_readByte_189 (by decide) ?_
                    obtain rfl := sm1 hE
                    exact hJ193_25 _ _ _ hI (lv_sub hl [0] rfl)
                replace hE := hZ
                clear hZ
                refine lv_if_ne (tgt := 161) hx hb dX9_readByte_154 (by decide) (fun c154 => ?_) (fun c154 => ?_)
                · rw [if_neg c154] at hE
                  refine lv_bipush (v := 10) hx hb dX9_readByte_161 (by decide) ?_
                  refine lv_aload_n hx hb dX9_readByte_163 rfl (lv_at hl 1 rfl) ?_
                  refine xg_get (C := RX9) (T := TX9) (M := 22) hx hb hown hG hI (by omega) eY_0 rfl inX9 10 (by decide) kf_X9_34 rfl dX9_readByte_164 ?_
                  refine lv_iload_n hx hb dX9_readByte_167 rfl (lv_at hl 0 rfl) ?_
                  obtain ⟨v29, hv, hE⟩ := bd1_some hE
                  refine xg_iald 0 hx hb hG hI (by omega) eY_9 rfl hv dX9_readByte_168 ?_
                  refine lv_imul hx hb dX9_readByte_169 ?_
                  obtain rfl := sm1 hE
                  exact hJ170_22 _ _ _ hI (lv_sub hl [1, 2] rfl)
                · rw [if_pos c154] at hE
                  refine lv_iconst (v := 0) hx hb dX9_readByte_157 (by decide) ?_
                  refine lv_goto (tgt := 170) hx hb dX9_readByte_158 (by decide) ?_
                  obtain rfl := sm1 hE
                  exact hJ170_22 _ _ _ hI (lv_sub hl [1, 2] rfl)
              replace hE := hZ
              clear hZ
              refine lv_if_ne (tgt := 142) hx hb dX9_readByte_135 (by decide) (fun c135 => ?_) (fun c135 => ?_)
              · rw [if_neg c135] at hE
                refine lv_iconst (v := 1) hx hb dX9_readByte_142 (by decide) ?_
                obtain rfl := sm1 hE
                exact hJ143_20 _ _ _ hI (lv_sub hl [0, 1] rfl)
              · rw [if_pos c135] at hE
                refine lv_iconst (v := 0) hx hb dX9_readByte_138 (by decide) ?_
                refine lv_goto (tgt := 143) hx hb dX9_readByte_139 (by decide) ?_
                obtain rfl := sm1 hE
                exact hJ143_20 _ _ _ hI (lv_sub hl [0, 1] rfl)
            · rw [if_pos c112] at hE
              refine lv_iconst (v := 0) hx hb dX9_readByte_115 (by decide) ?_
              obtain ⟨rfl, rfl⟩ := sm2 hE
              exact xr_z rfl hx hb hr hlk hG hI dX9_readByte_116
    · rw [if_pos c65] at hE
      refine lv_aload_n hx hb dX9_readByte_68 rfl (lv_at hl 0 rfl) ?_
      refine lv_iconst (v := 0) hx hb dX9_readByte_69 (by decide) ?_
      obtain ⟨mu30, hu, hE⟩ := bd1_some hE
      refine xg_put (C := RX9) (T := TX9) (M := 22) hx hb hown hG hI (by omega) eY_0 rfl inX9 tyX9 tyX9_ok nmX9 21 (by decide) kf_X9_226 rfl (ty := .int) (by decide +kernel) rfl rfl (Nat.le_of_ble_eq_true rfl) rfl hu dX9_readByte_70 (fun H locs hI => ?_)
      refine lv_iconst (v := 1) hx hb dX9_readByte_73 (by decide) ?_
      obtain ⟨rfl, rfl⟩ := sm2 hE
      exact xr_z rfl hx hb hr hlk hG hI dX9_readByte_74
  · rw [if_pos c4] at hE
    refine lv_aload_n hx hb dX9_readByte_7 rfl (lv_at hl 0 rfl) ?_
    refine lv_iload_n hx hb dX9_readByte_8 rfl (lv_at hl 1 rfl) ?_
    refine lv_bipush (v := 32) hx hb dX9_readByte_9 (by decide) ?_
    obtain ⟨x31, hZ, hE⟩ := bd1_some hE
    have hJ19_31 : ∀ (H : Heap) (locs : List Loc) (ls : Array Slot), xI D (va_A (wY A cI u) s.heap.size) s.heap (wY A cI u) H locs → lv_has ls 3 [(0, .ref (A 0)), (1, .int p1)] → W p l e (rmOf 1 22) s m ([.ref (A 0), .int p1] : List Value).toArray below meth c H locs 0 0 (xQ D (tyL cI cZ cD) below ([.ref (A 0), .int p1] : List Value).toArray s (wY A cI u) (some (.int (b2i r))) (wY A cI u1)) (F0 m 19 ls [.int x31, .ref (A 0)]) := by
      intro H locs ls hI hl
      clear hZ
      obtain ⟨mu33, hu, hE⟩ := bd1_some hE
      refine xg_put (C := RX9) (T := TX9) (M := 22) hx hb hown hG hI (by omega) eY_0 rfl inX9 tyX9 tyX9_ok nmX9 19 (by decide) kf_X9_220 rfl (ty := .int) (by decide +kernel) rfl rfl (Nat.le_of_ble_eq_true rfl) rfl hu dX9_readByte_19 (fun H locs hI => ?_)
      refine lv_aload_n hx hb dX9_readByte_22 rfl (lv_at hl 0 rfl) ?_
      refine lv_iconst (v := 0) hx hb dX9_readByte_23 (by decide) ?_
      obtain ⟨mu34, hu, hE⟩ := bd1_some hE
      refine xg_put (C := RX9) (T := TX9) (M := 22) hx hb hown hG hI (by omega) eY_0 rfl inX9 tyX9 tyX9_ok nmX9 20 (by decide) kf_X9_223 rfl (ty := .int) (by decide +kernel) rfl rfl (Nat.le_of_ble_eq_true rfl) rfl hu dX9_readByte_24 (fun H locs hI => ?_)
      refine lv_aload_n hx hb dX9_readByte_27 rfl (lv_at hl 0 rfl) ?_
      refine lv_iconst (v := 0) hx hb dX9_readByte_28 (by decide) ?_
      obtain ⟨mu35, hu, hE⟩ := bd1_some hE
      refine xg_put (C := RX9) (T := TX9) (M := 22) hx hb hown hG hI (by omega) eY_0 rfl inX9 tyX9 tyX9_ok nmX9 21 (by decide) kf_X9_226 rfl (ty := .int) (by decide +kernel) rfl rfl (Nat.le_of_ble_eq_true rfl) rfl hu dX9_readByte_29 (fun H locs hI => ?_)
      refine lv_aload_n hx hb dX9_readByte_32 rfl (lv_at hl 0 rfl) ?_
      refine xg_get (C := RX9) (T := TX9) (M := 22) hx hb hown hG hI (by omega) eY_0 rfl inX9 8 (by decide) kf_X9_28 rfl dX9_readByte_33 ?_
      refine lv_aload_n hx hb dX9_readByte_36 rfl (lv_at hl 0 rfl) ?_
      refine xg_get (C := RX9) (T := TX9) (M := 22) hx hb hown hG hI (by omega) eY_0 rfl inX9 11 (by decide) kf_X9_229 rfl dX9_readByte_37 ?_
      refine lv_iload_n hx hb dX9_readByte_40 rfl (lv_at hl 1 rfl) ?_
      obtain ⟨mu36, hv, hE⟩ := bd1_some hE
      refine xg_iast 0 hx hb hG hI (by omega) eY_7 rfl hv dX9_readByte_41 (fun H locs hI => ?_)
      refine lv_iload_n hx hb dX9_readByte_42 rfl (lv_at hl 1 rfl) ?_
      refine lv_bipush (v := 32) hx hb dX9_readByte_43 (by decide) ?_
      refine lv_icmp_eq (tgt := 56) hx hb dX9_readByte_45 (by decide) (fun c45 => ?_) (fun c45 => ?_)
      · rw [if_pos c45] at hE
        refine lv_iconst (v := 1) hx hb dX9_readByte_56 (by decide) ?_
        refine lv_goto (tgt := 61) hx hb dX9_readByte_57 (by decide) ?_
        obtain ⟨rfl, rfl⟩ := sm2 hE
        exact xr_z rfl hx hb hr hlk hG hI dX9_readByte_61
      · rw [if_neg c45] at hE
        refine lv_iload_n hx hb dX9_readByte_48 rfl (lv_at hl 1 rfl) ?_
        obtain ⟨r37, hc, hE⟩ := bd1_some hE
        refine xc_S1 (rest := []) (c_X9_wantsOf hc) mw_X9_wantsOf km_X9_232 hx hb hml hown hG hI xA_of ⟨Nat.le_of_ble_eq_true rfl, Nat.le_of_ble_eq_true rfl⟩ rfl hl.1 rfl (Nat.le_of_ble_eq_true rfl) dX9_readByte_49 (fun H locs hI => ?_)
        refine lv_iconst (v := (-1)) hx hb dX9_readByte_52 (by decide) ?_
        refine lv_icmp_eq (tgt := 60) hx hb dX9_readByte_53 (by decide) (fun c53 => ?_) (fun c53 => ?_)
        · rw [if_pos c53] at hE
          refine lv_iconst (v := 0) hx hb dX9_readByte_60 (by decide) ?_
          obtain ⟨rfl, rfl⟩ := sm2 hE
          exact xr_z rfl hx hb hr hlk hG hI dX9_readByte_61
        · rw [if_neg c53] at hE
          refine lv_iconst (v := 1) hx hb dX9_readByte_56 (by decide) ?_
          refine lv_goto (tgt := 61) hx hb dX9_readByte_57 (by decide) ?_
          obtain ⟨rfl, rfl⟩ := sm2 hE
          exact xr_z rfl hx hb hr hlk hG hI dX9_readByte_61
    replace hE := hZ
    clear hZ
    refine lv_icmp_ne (tgt := 18) hx hb dX9_readByte_11 (by decide) (fun c11 => ?_) (fun c11 => ?_)
    · rw [if_neg c11] at hE
      refine lv_iload_n hx hb dX9_readByte_18 rfl (lv_at hl 1 rfl) ?_
      obtain rfl := sm1 hE
      exact hJ19_31 _ _ _ hI (lv_sub hl [0, 1] rfl)
    · rw [if_pos c11] at hE
      refine lv_iconst (v := 0) hx hb dX9_readByte_14 (by decide) ?_
      refine lv_goto (tgt := 19) hx hb dX9_readByte_15 (by decide) ?_
      obtain rfl := sm1 hE
      exact hJ19_31 _ _ _ hI (lv_sub hl [0, 1] rfl)
def X9_readText_L19 : Nat → Int32 → Mem → Option (Int32 × Mem)
  | 0, _, _ => none
  | n19 + 1, x4, mu5 =>
    (if (mu5 0 7) ≤ x4 then (if (mu5 0 19) = 0 then (if (mu5 0 11) = 0 then some (mu5 0 7, mu5) else some ((-1), mu5)) else some (mu5 0 7, mu5)) else (rd 150 (mu5 6) x4).bind fun v6 => bd2 (X9_readByte mu5 v6) fun (r7 : Bool) (mu8 : Mem) => (if (b2i r7) = 0 then some (x4, mu8) else X9_readText_L19 n19 (x4 + 1) mu8))
def X9_readText (u : Mem) : Option (Int32 × Mem) :=
  (stF u 0 11 0).bind fun mu1 => (stI 151 mu1 8 0 0).bind fun mu2 => (stF mu2 0 19 0).bind fun mu3 => X9_readText_L19 fu 0 mu3
set_option maxHeartbeats 4000000 in
set_option maxRecDepth 100000 in
theorem c_X9_readText {l : Launch} {D : va_G} {A : Nat → Nat} {cI cZ cD : ClassId} {u u1 : Mem} {r : Int32}  (hE : X9_readText u = some (r, u1)) : Ct l yX9_readText cX9_readText 2 (some .int) (rmOf 2 44) D (tyL cI cZ cD) [.ref (A 0)] (wY A cI u) (some (.int r)) (wY A cI u1) := by
  refine Ct.ofW (by decide +kernel) (fun p e s m below meth c hC hI => ?_)
  obtain ⟨hx, hb, hml, hown, hr, hlk, hG⟩ := hC
  have hown : s.vm.findClass RX9 = some m.cls := hown
  have hl := lv_entry ([.ref (A 0)] : List Value) (n := 2) (Nat.le_of_ble_eq_true rfl)
  rw [lg_entry_eq]
  generalize (lg_sl ([.ref (A 0)] : List Value) ++ List.replicate (2 - (lg_sl ([.ref (A 0)] : List Value)).length) Slot.unset).toArray = ls at hl ⊢
  have hl : lv_has ls 2 [(0, .ref (A 0))] := hl
  unfold X9_readText at hE
  refine lv_aload_n hx hb dX9_readText_0 rfl (lv_at hl 0 rfl) ?_
  refine lv_iconst (v := 0) hx hb dX9_readText_1 (by decide) ?_
  obtain ⟨mu1, hu, hE⟩ := bd1_some hE
  refine xg_put (C := RX9) (T := TX9) (M := 22) hx hb hown hG hI (by omega) eY_0 rfl inX9 tyX9 tyX9_ok nmX9 11 (by decide) kf_X9_229 rfl (ty := .int) (by decide +kernel) rfl rfl (Nat.le_of_ble_eq_true rfl) rfl hu dX9_readText_2 (fun H locs hI => ?_)
  refine lv_aload_n hx hb dX9_readText_5 rfl (lv_at hl 0 rfl) ?_
  refine xg_get (C := RX9) (T := TX9) (M := 22) hx hb hown hG hI (by omega) eY_0 rfl inX9 9 (by decide) kf_X9_31 rfl dX9_readText_6 ?_
  refine lv_iconst (v := 0) hx hb dX9_readText_9 (by decide) ?_
  refine lv_iconst (v := 0) hx hb dX9_readText_10 (by decide) ?_
  obtain ⟨mu2, hv, hE⟩ := bd1_some hE
  refine xg_iast 0 hx hb hG hI (by omega) eY_8 rfl hv dX9_readText_11 (fun H locs hI => ?_)
  refine lv_aload_n hx hb dX9_readText_12 rfl (lv_at hl 0 rfl) ?_
  refine lv_iconst (v := 0) hx hb dX9_readText_13 (by decide) ?_
  obtain ⟨mu3, hu, hE⟩ := bd1_some hE
  refine xg_put (C := RX9) (T := TX9) (M := 22) hx hb hown hG hI (by omega) eY_0 rfl inX9 tyX9 tyX9_ok nmX9 19 (by decide) kf_X9_220 rfl (ty := .int) (by decide +kernel) rfl rfl (Nat.le_of_ble_eq_true rfl) rfl hu dX9_readText_14 (fun H locs hI => ?_)
  refine lv_iconst (v := 0) hx hb dX9_readText_17 (by decide) ?_
  refine lv_istore_n (lv' := [(1, .int 0), (0, .ref (A 0))]) hx hb dX9_readText_18 rfl hl (by decide) rfl (fun ls hl => ?_)
  have hL19 : ∀ (n19 : Nat) (x4 : Int32) (mu5 : Mem) (H : Heap) (locs : List Loc) (ls : Array Slot), X9_readText_L19 n19 x4 mu5 = some (r, u1) → xI D (va_A (wY A cI u) s.heap.size) s.heap (wY A cI mu5) H locs → lv_has ls 2 [(0, .ref (A 0)), (1, .int x4)] → W p l e (rmOf 2 44) s m ([.ref (A 0)] : List Value).toArray below meth c H locs 0 0 (xQ D (tyL cI cZ cD) below ([.ref (A 0)] : List Value).toArray s (wY A cI u) (some (.int r)) (wY A cI u1)) (F0 m 19 ls []) := by
    intro n19
    induction n19 with
    | zero =>
      intro x4 mu5 H locs ls hE
      exact absurd hE (by simp [X9_readText_L19])
    | succ n19 ih19 =>
      intro x4 mu5 H locs ls hE hI hl
      rw [X9_readText_L19] at hE
      refine lv_iload_n hx hb dX9_readText_19 rfl (lv_at hl 1 rfl) ?_
      refine lv_aload_n hx hb dX9_readText_20 rfl (lv_at hl 0 rfl) ?_
      refine xg_get (C := RX9) (T := TX9) (M := 22) hx hb hown hG hI (by omega) eY_0 rfl inX9 7 (by decide) kf_X9_217 rfl dX9_readText_21 ?_
      refine lv_icmp_ge (tgt := 48) hx hb dX9_readText_24 (by decide) (fun c24 => ?_) (fun c24 => ?_)
      · rw [if_pos c24] at hE
        refine lv_aload_n hx hb dX9_readText_48 rfl (lv_at hl 0 rfl) ?_
        refine xg_get (C := RX9) (T := TX9) (M := 22) hx hb hown hG hI (by omega) eY_0 rfl inX9 19 (by decide) kf_X9_220 rfl dX9_readText_49 ?_
        refine lv_if_ne (tgt := 62) hx hb dX9_readText_52 (by decide) (fun c52 => ?_) (fun c52 => ?_)
        · rw [if_neg c52] at hE
          refine lv_aload_n hx hb dX9_readText_62 rfl (lv_at hl 0 rfl) ?_
          refine xg_get (C := RX9) (T := TX9) (M := 22) hx hb hown hG hI (by omega) eY_0 rfl inX9 7 (by decide) kf_X9_217 rfl dX9_readText_63 ?_
          refine lv_goto (tgt := 70) hx hb dX9_readText_66 (by decide) ?_
          obtain ⟨rfl, rfl⟩ := sm2 hE
          exact xr_i hx hb hr hlk hG hI dX9_readText_70
        · rw [if_pos c52] at hE
          refine lv_aload_n hx hb dX9_readText_55 rfl (lv_at hl 0 rfl) ?_
          refine xg_get (C := RX9) (T := TX9) (M := 22) hx hb hown hG hI (by omega) eY_0 rfl inX9 11 (by decide) kf_X9_229 rfl dX9_readText_56 ?_
          refine lv_if_ne (tgt := 69) hx hb dX9_readText_59 (by decide) (fun c59 => ?_) (fun c59 => ?_)
          · rw [if_neg c59] at hE
            refine lv_iconst (v := (-1)) hx hb dX9_readText_69 (by decide) ?_
            obtain ⟨rfl, rfl⟩ := sm2 hE
            exact xr_i hx hb hr hlk hG hI dX9_readText_70
          · rw [if_pos c59] at hE
            refine lv_aload_n hx hb dX9_readText_62 rfl (lv_at hl 0 rfl) ?_
            refine xg_get (C := RX9) (T := TX9) (M := 22) hx hb hown hG hI (by omega) eY_0 rfl inX9 7 (by decide) kf_X9_217 rfl dX9_readText_63 ?_
            refine lv_goto (tgt := 70) hx hb dX9_readText_66 (by decide) ?_
            obtain ⟨rfl, rfl⟩ := sm2 hE
            exact xr_i hx hb hr hlk hG hI dX9_readText_70
      · rw [if_neg c24] at hE
        refine lv_aload_n hx hb dX9_readText_27 rfl (lv_at hl 0 rfl) ?_
        refine lv_aload_n hx hb dX9_readText_28 rfl (lv_at hl 0 rfl) ?_
        refine xg_get (C := RX9) (T := TX9) (M := 22) hx hb hown hG hI (by omega) eY_0 rfl inX9 6 (by decide) kf_X9_25 rfl dX9_readText_29 ?_
        refine lv_iload_n hx hb dX9_readText_32 rfl (lv_at hl 1 rfl) ?_
        obtain ⟨v6, hv, hE⟩ := bd1_some hE
        refine xg_iald 0 hx hb hG hI (by omega) eY_6 rfl hv dX9_readText_33 ?_
        obtain ⟨r7, mu8, hc, hE⟩ := bd2_some hE
        refine xc_V1 (rest := []) (c_X9_readByte hc) mw_X9_readByte km_X9_235 hx hb hml hown hG hI xA_of (wG_atE (by omega) eY_0) rfl rfl ⟨Nat.le_of_ble_eq_true rfl, Nat.le_of_ble_eq_true rfl⟩ rfl hl.1 rfl (Nat.le_of_ble_eq_true rfl) dX9_readText_34 (fun H locs hI => ?_)
        refine lv_if_ne (tgt := 42) hx hb dX9_readText_37 (by decide) (fun c37 => ?_) (fun c37 => ?_)
        · rw [if_neg c37] at hE
          refine lv_iinc (v := x4 + 1) (lv' := [(1, .int (x4 + 1)), (0, .ref (A 0))]) hx hb dX9_readText_42 hl (k := 1) rfl rfl (by decide) rfl (fun ls hl => ?_)
          refine lv_goto (tgt := 19) hx hb dX9_readText_45 (by decide) ?_
          exact ih19 _ _ _ _ _ hE hI (lv_sub hl [1, 0] rfl)
        · rw [if_pos c37] at hE
          refine lv_iload_n hx hb dX9_readText_40 rfl (lv_at hl 1 rfl) ?_
          obtain ⟨rfl, rfl⟩ := sm2 hE
          exact xr_i hx hb hr hlk hG hI dX9_readText_41
  exact hL19 _ _ _ _ _ _ hE hI (lv_sub hl [1, 0] rfl)
def X9_numberOf (u : Mem) (p1 : Int32) (p2 : Int32) : Option (Int32) :=
  (rd 151 (u 8) p1).bind fun v1 => (rd 151 (u 8) (p1 + 1)).bind fun v2 => (if v2 ≤ (v1 + p2) then some 0 else (rd 151 (u 8) p1).bind fun v3 => (rd 150 (u 9) (v3 + p2)).bind fun v4 => some v4)
set_option maxHeartbeats 4000000 in
set_option maxRecDepth 100000 in
theorem c_X9_numberOf {l : Launch} {D : va_G} {A : Nat → Nat} {cI cZ cD : ClassId} {u : Mem} {p1 : Int32} {p2 : Int32} {r : Int32}  (hE : X9_numberOf u p1 p2 = some (r)) : Ct l yX9_numberOf cX9_numberOf 3 (some .int) (rmOf 0 0) D (tyL cI cZ cD) [.ref (A 0), .int p1, .int p2] (wY A cI u) (some (.int r)) (wY A cI u) := by
  refine Ct.ofW (by decide +kernel) (fun p e s m below meth c hC hI => ?_)
  obtain ⟨hx, hb, hml, hown, hr, hlk, hG⟩ := hC
  have hown : s.vm.findClass RX9 = some m.cls := hown
  have hl := lv_entry ([.ref (A 0), .int p1, .int p2] : List Value) (n := 3) (Nat.le_of_ble_eq_true rfl)
  rw [lg_entry_eq]
  generalize (lg_sl ([.ref (A 0), .int p1, .int p2] : List Value) ++ List.replicate (3 - (lg_sl ([.ref (A 0), .int p1, .int p2] : List Value)).length) Slot.unset).toArray = ls at hl ⊢
  have hl : lv_has ls 3 [(0, .ref (A 0)), (1, .int p1), (2, .int p2)] := hl
  unfold X9_numberOf at hE
  refine lv_aload_n hx hb dX9_numberOf_0 rfl (lv_at hl 0 rfl) ?_
  refine xg_get (C := RX9) (T := TX9) (M := 22) hx hb hown hG hI (by omega) eY_0 rfl inX9 9 (by decide) kf_X9_31 rfl dX9_numberOf_1 ?_
  refine lv_iload_n hx hb dX9_numberOf_4 rfl (lv_at hl 1 rfl) ?_
  obtain ⟨v1, hv, hE⟩ := bd1_some hE
  refine xg_iald 0 hx hb hG hI (by omega) eY_8 rfl hv dX9_numberOf_5 ?_
  refine lv_iload_n hx hb dX9_numberOf_6 rfl (lv_at hl 2 rfl) ?_
  refine lv_iadd hx hb dX9_numberOf_7 ?_
  refine lv_aload_n hx hb dX9_numberOf_8 rfl (lv_at hl 0 rfl) ?_
  refine xg_get (C := RX9) (T := TX9) (M := 22) hx hb hown hG hI (by omega) eY_0 rfl inX9 9 (by decide) kf_X9_31 rfl dX9_numberOf_9 ?_
  refine lv_iload_n hx hb dX9_numberOf_12 rfl (lv_at hl 1 rfl) ?_
  refine lv_iconst (v := 1) hx hb dX9_numberOf_13 (by decide) ?_
  refine lv_iadd hx hb dX9_numberOf_14 ?_
  obtain ⟨v2, hv, hE⟩ := bd1_some hE
  refine xg_iald 0 hx hb hG hI (by omega) eY_8 rfl hv dX9_numberOf_15 ?_
  refine lv_icmp_ge (tgt := 35) hx hb dX9_numberOf_16 (by decide) (fun c16 => ?_) (fun c16 => ?_)
  · rw [if_pos c16] at hE
    refine lv_iconst (v := 0) hx hb dX9_numberOf_35 (by decide) ?_
    obtain rfl := sm1 hE
    exact xr_i hx hb hr hlk hG hI dX9_numberOf_36
  · rw [if_neg c16] at hE
    refine lv_aload_n hx hb dX9_numberOf_19 rfl (lv_at hl 0 rfl) ?_
    refine xg_get (C := RX9) (T := TX9) (M := 22) hx hb hown hG hI (by omega) eY_0 rfl inX9 10 (by decide) kf_X9_34 rfl dX9_numberOf_20 ?_
    refine lv_aload_n hx hb dX9_numberOf_23 rfl (lv_at hl 0 rfl) ?_
    refine xg_get (C := RX9) (T := TX9) (M := 22) hx hb hown hG hI (by omega) eY_0 rfl inX9 9 (by decide) kf_X9_31 rfl dX9_numberOf_24 ?_
    refine lv_iload_n hx hb dX9_numberOf_27 rfl (lv_at hl 1 rfl) ?_
    obtain ⟨v3, hv, hE⟩ := bd1_some hE
    refine xg_iald 0 hx hb hG hI (by omega) eY_8 rfl hv dX9_numberOf_28 ?_
    refine lv_iload_n hx hb dX9_numberOf_29 rfl (lv_at hl 2 rfl) ?_
    refine lv_iadd hx hb dX9_numberOf_30 ?_
    obtain ⟨v4, hv, hE⟩ := bd1_some hE
    refine xg_iald 0 hx hb hG hI (by omega) eY_9 rfl hv dX9_numberOf_31 ?_
    refine lv_goto (tgt := 36) hx hb dX9_numberOf_32 (by decide) ?_
    obtain rfl := sm1 hE
    exact xr_i hx hb hr hlk hG hI dX9_numberOf_36
def X9_doOrder (u : Mem) (p1 : Int32) : Option (Int32 × Mem) :=
  (X9_numberOf u p1 0 : Option Int32).bind fun (r1 : Int32) => (X9_numberOf u p1 1 : Option Int32).bind fun (r2 : Int32) => (X9_numberOf u p1 2 : Option Int32).bind fun (r3 : Int32) => (X9_numberOf u p1 3 : Option Int32).bind fun (r4 : Int32) => (rd 150 (u 7) p1).bind fun v5 => (if v5 = 97 then (X9_numberOf u p1 4 : Option Int32).bind fun (r6 : Int32) => bd2 (X9_add u r1 r2 r3 r4 r6) fun (r7 : Int32) (mu8 : Mem) => some (r7, mu8) else (if v5 = 100 then bd2 (X9_delete u r1 r2) fun (r9 : Int32) (mu10 : Mem) => some (r9, mu10) else (if v5 = 101 then bd2 (X9_put u r1 r2 48 r3) fun (r11 : Int32) (mu12 : Mem) => some (r11, mu12) else (if v5 = 102 then bd2 (X9_fork u) fun (r13 : Int32) (mu14 : Mem) => some (r13, mu14) else (if v5 = 109 then bd2 (X9_move u r1 r2 r3 r4) fun (r15 : Int32) (mu16 : Mem) => some (r15, mu16) else (if v5 = 114 then bd2 (X9_put u r1 r2 32 r3) fun (r17 : Int32) (mu18 : Mem) => some (r17, mu18) else bd2 (X9_prefer u r1) fun (r19 : Int32) (mu20 : Mem) => some (r19, mu20)))))))
set_option maxHeartbeats 4000000 in
set_option maxRecDepth 100000 in
theorem c_X9_doOrder {l : Launch} {D : va_G} {A : Nat → Nat} {cI cZ cD : ClassId} {u u1 : Mem} {p1 : Int32} {r : Int32}  (hE : X9_doOrder u p1 = some (r, u1)) : Ct l yX9_doOrder cX9_doOrder 6 (some .int) (rmOf 4 97) D (tyL cI cZ cD) [.ref (A 0), .int p1] (wY A cI u) (some (.int r)) (wY A cI u1) := by
  refine Ct.ofW (by decide +kernel) (fun p e s m below meth c hC hI => ?_)
  obtain ⟨hx, hb, hml, hown, hr, hlk, hG⟩ := hC
  have hown : s.vm.findClass RX9 = some m.cls := hown
  have hl := lv_entry ([.ref (A 0), .int p1] : List Value) (n := 6) (Nat.le_of_ble_eq_true rfl)
  rw [lg_entry_eq]
  generalize (lg_sl ([.ref (A 0), .int p1] : List Value) ++ List.replicate (6 - (lg_sl ([.ref (A 0), .int p1] : List Value)).length) Slot.unset).toArray = ls at hl ⊢
  have hl : lv_has ls 6 [(0, .ref (A 0)), (1, .int p1)] := hl
  unfold X9_doOrder at hE
  refine lv_aload_n hx hb dX9_doOrder_0 rfl (lv_at hl 0 rfl) ?_
  refine lv_iload_n hx hb dX9_doOrder_1 rfl (lv_at hl 1 rfl) ?_
  refine lv_iconst (v := 0) hx hb dX9_doOrder_2 (by decide) ?_
  obtain ⟨r1, hc, hE⟩ := bd1_some hE
  refine xc_V1 (rest := []) (c_X9_numberOf hc) mw_X9_numberOf km_X9_238 hx hb hml hown hG hI xA_of (wG_atE (by omega) eY_0) rfl rfl ⟨Nat.le_of_ble_eq_true rfl, Nat.le_of_ble_eq_true rfl⟩ rfl hl.1 rfl (Nat.le_of_ble_eq_true rfl) dX9_doOrder_3 (fun H locs hI => ?_)
  refine lv_istore_n (lv' := [(2, .int r1), (0, .ref (A 0)), (1, .int p1)]) hx hb dX9_doOrder_6 rfl hl (by decide) rfl (fun ls hl => ?_)
  refine lv_aload_n hx hb dX9_doOrder_7 rfl (lv_at hl 1 rfl) ?_
  refine lv_iload_n hx hb dX9_doOrder_8 rfl (lv_at hl 2 rfl) ?_
  refine lv_iconst (v := 1) hx hb dX9_doOrder_9 (by decide) ?_
  obtain ⟨r2, hc, hE⟩ := bd1_some hE
  refine xc_V1 (rest := []) (c_X9_numberOf hc) mw_X9_numberOf km_X9_238 hx hb hml hown hG hI xA_of (wG_atE (by omega) eY_0) rfl rfl ⟨Nat.le_of_ble_eq_true rfl, Nat.le_of_ble_eq_true rfl⟩ rfl hl.1 rfl (Nat.le_of_ble_eq_true rfl) dX9_doOrder_10 (fun H locs hI => ?_)
  refine lv_istore_n (lv' := [(3, .int r2), (2, .int r1), (0, .ref (A 0)), (1, .int p1)]) hx hb dX9_doOrder_13 rfl hl (by decide) rfl (fun ls hl => ?_)
  refine lv_aload_n hx hb dX9_doOrder_14 rfl (lv_at hl 2 rfl) ?_
  refine lv_iload_n hx hb dX9_doOrder_15 rfl (lv_at hl 3 rfl) ?_
  refine lv_iconst (v := 2) hx hb dX9_doOrder_16 (by decide) ?_
  obtain ⟨r3, hc, hE⟩ := bd1_some hE
  refine xc_V1 (rest := []) (c_X9_numberOf hc) mw_X9_numberOf km_X9_238 hx hb hml hown hG hI xA_of (wG_atE (by omega) eY_0) rfl rfl ⟨Nat.le_of_ble_eq_true rfl, Nat.le_of_ble_eq_true rfl⟩ rfl hl.1 rfl (Nat.le_of_ble_eq_true rfl) dX9_doOrder_17 (fun H locs hI => ?_)
  refine lv_istore (lv' := [(4, .int r3), (3, .int r2), (2, .int r1), (0, .ref (A 0)), (1, .int p1)]) hx hb dX9_doOrder_20 hl (by decide) rfl (fun ls hl => ?_)
  refine lv_aload_n hx hb dX9_doOrder_22 rfl (lv_at hl 3 rfl) ?_
  refine lv_iload_n hx hb dX9_doOrder_23 rfl (lv_at hl 4 rfl) ?_
  refine lv_iconst (v := 3) hx hb dX9_doOrder_24 (by decide) ?_
  obtain ⟨r4, hc, hE⟩ := bd1_some hE
  refine xc_V1 (rest := []) (c_X9_numberOf hc) mw_X9_numberOf km_X9_238 hx hb hml hown hG hI xA_of (wG_atE (by omega) eY_0) rfl rfl ⟨Nat.le_of_ble_eq_true rfl, Nat.le_of_ble_eq_true rfl⟩ rfl hl.1 rfl (Nat.le_of_ble_eq_true rfl) dX9_doOrder_25 (fun H locs hI => ?_)
  refine lv_istore (lv' := [(5, .int r4), (4, .int r3), (3, .int r2), (2, .int r1), (0, .ref (A 0)), (1, .int p1)]) hx hb dX9_doOrder_28 hl (by decide) rfl (fun ls hl => ?_)
  refine lv_aload_n hx hb dX9_doOrder_30 rfl (lv_at hl 4 rfl) ?_
  refine xg_get (C := RX9) (T := TX9) (M := 22) hx hb hown hG hI (by omega) eY_0 rfl inX9 8 (by decide) kf_X9_28 rfl dX9_doOrder_31 ?_
  refine lv_iload_n hx hb dX9_doOrder_34 rfl (lv_at hl 5 rfl) ?_
  obtain ⟨v5, hv, hE⟩ := bd1_some hE
  refine xg_iald 0 hx hb hG hI (by omega) eY_7 rfl hv dX9_doOrder_35 ?_
  by_cases k36_97 : v5 = 97
  · rw [if_pos k36_97] at hE
    refine lv_tableIn (tgt := 124) hx hb dX9_doOrder_36 (by rw [k36_97]; decide) (by rw [k36_97]; decide) (by rw [k36_97]; rfl) (by decide) ?_
    refine lv_aload_n hx hb dX9_doOrder_124 rfl (lv_at hl 4 rfl) ?_
    refine lv_iload_n hx hb dX9_doOrder_125 rfl (lv_at hl 3 rfl) ?_
    refine lv_iload_n hx hb dX9_doOrder_126 rfl (lv_at hl 2 rfl) ?_
    refine lv_iload hx hb dX9_doOrder_127 (lv_at hl 1 rfl) ?_
    refine lv_iload hx hb dX9_doOrder_129 (lv_at hl 0 rfl) ?_
    refine lv_aload_n hx hb dX9_doOrder_131 rfl (lv_at hl 4 rfl) ?_
    refine lv_iload_n hx hb dX9_doOrder_132 rfl (lv_at hl 5 rfl) ?_
    refine lv_iconst (v := 4) hx hb dX9_doOrder_133 (by decide) ?_
    obtain ⟨r6, hc, hE⟩ := bd1_some hE
    refine xc_V1 (rest := [.int r4, .int r3, .int r2, .int r1, .ref (A 0)]) (c_X9_numberOf hc) mw_X9_numberOf km_X9_238 hx hb hml hown hG hI xA_of (wG_atE (by omega) eY_0) rfl rfl ⟨Nat.le_of_ble_eq_true rfl, Nat.le_of_ble_eq_true rfl⟩ rfl hl.1 rfl (Nat.le_of_ble_eq_true rfl) dX9_doOrder_134 (fun H locs hI => ?_)
    obtain ⟨r7, mu8, hc, hE⟩ := bd2_some hE
    refine xc_V1 (rest := []) (c_X9_add hc) mw_X9_add km_X9_118 hx hb hml hown hG hI xA_of (wG_atE (by omega) eY_0) rfl rfl ⟨Nat.le_of_ble_eq_true rfl, Nat.le_of_ble_eq_true rfl⟩ rfl hl.1 rfl (Nat.le_of_ble_eq_true rfl) dX9_doOrder_137 (fun H locs hI => ?_)
    obtain ⟨rfl, rfl⟩ := sm2 hE
    exact xr_i hx hb hr hlk hG hI dX9_doOrder_140
  · rw [if_neg k36_97] at hE
    by_cases k36_100 : v5 = 100
    · rw [if_pos k36_100] at hE
      refine lv_tableIn (tgt := 174) hx hb dX9_doOrder_36 (by rw [k36_100]; decide) (by rw [k36_100]; decide) (by rw [k36_100]; rfl) (by decide) ?_
      refine lv_aload_n hx hb dX9_doOrder_174 rfl (lv_at hl 4 rfl) ?_
      refine lv_iload_n hx hb dX9_doOrder_175 rfl (lv_at hl 3 rfl) ?_
      refine lv_iload_n hx hb dX9_doOrder_176 rfl (lv_at hl 2 rfl) ?_
      obtain ⟨r9, mu10, hc, hE⟩ := bd2_some hE
      refine xc_V1 (rest := []) (c_X9_delete hc) mw_X9_delete km_X9_132 hx hb hml hown hG hI xA_of (wG_atE (by omega) eY_0) rfl rfl ⟨Nat.le_of_ble_eq_true rfl, Nat.le_of_ble_eq_true rfl⟩ rfl hl.1 rfl (Nat.le_of_ble_eq_true rfl) dX9_doOrder_177 (fun H locs hI => ?_)
      obtain ⟨rfl, rfl⟩ := sm2 hE
      exact xr_i hx hb hr hlk hG hI dX9_doOrder_180
    · rw [if_neg k36_100] at hE
      by_cases k36_101 : v5 = 101
      · rw [if_pos k36_101] at hE
        refine lv_tableIn (tgt := 163) hx hb dX9_doOrder_36 (by rw [k36_101]; decide) (by rw [k36_101]; decide) (by rw [k36_101]; rfl) (by decide) ?_
        refine lv_aload_n hx hb dX9_doOrder_163 rfl (lv_at hl 4 rfl) ?_
        refine lv_iload_n hx hb dX9_doOrder_164 rfl (lv_at hl 3 rfl) ?_
        refine lv_iload_n hx hb dX9_doOrder_165 rfl (lv_at hl 2 rfl) ?_
        refine lv_bipush (v := 48) hx hb dX9_doOrder_166 (by decide) ?_
        refine lv_iload hx hb dX9_doOrder_168 (lv_at hl 1 rfl) ?_
        obtain ⟨r11, mu12, hc, hE⟩ := bd2_some hE
        refine xc_V1 (rest := []) (c_X9_put hc) mw_X9_put km_X9_129 hx hb hml hown hG hI xA_of (wG_atE (by omega) eY_0) rfl rfl ⟨Nat.le_of_ble_eq_true rfl, Nat.le_of_ble_eq_true rfl⟩ rfl hl.1 rfl (Nat.le_of_ble_eq_true rfl) dX9_doOrder_170 (fun H locs hI => ?_)
        obtain ⟨rfl, rfl⟩ := sm2 hE
        exact xr_i hx hb hr hlk hG hI dX9_doOrder_173
      · rw [if_neg k36_101] at hE
        by_cases k36_102 : v5 = 102
        · rw [if_pos k36_102] at hE
          refine lv_tableIn (tgt := 181) hx hb dX9_doOrder_36 (by rw [k36_102]; decide) (by rw [k36_102]; decide) (by rw [k36_102]; rfl) (by decide) ?_
          refine lv_aload_n hx hb dX9_doOrder_181 rfl (lv_at hl 4 rfl) ?_
          obtain ⟨r13, mu14, hc, hE⟩ := bd2_some hE
          refine xc_V1 (rest := []) (c_X9_fork hc) mw_X9_fork km_X9_135 hx hb hml hown hG hI xA_of (wG_atE (by omega) eY_0) rfl rfl ⟨Nat.le_of_ble_eq_true rfl, Nat.le_of_ble_eq_true rfl⟩ rfl hl.1 rfl (Nat.le_of_ble_eq_true rfl) dX9_doOrder_182 (fun H locs hI => ?_)
          obtain ⟨rfl, rfl⟩ := sm2 hE
          exact xr_i hx hb hr hlk hG hI dX9_doOrder_185
        · rw [if_neg k36_102] at hE
          by_cases k36_109 : v5 = 109
          · rw [if_pos k36_109] at hE
            refine lv_tableIn (tgt := 141) hx hb dX9_doOrder_36 (by rw [k36_109]; decide) (by rw [k36_109]; decide) (by rw [k36_109]; rfl) (by decide) ?_
            refine lv_aload_n hx hb dX9_doOrder_141 rfl (lv_at hl 4 rfl) ?_
            refine lv_iload_n hx hb dX9_doOrder_142 rfl (lv_at hl 3 rfl) ?_
            refine lv_iload_n hx hb dX9_doOrder_143 rfl (lv_at hl 2 rfl) ?_
            refine lv_iload hx hb dX9_doOrder_144 (lv_at hl 1 rfl) ?_
            refine lv_iload hx hb dX9_doOrder_146 (lv_at hl 0 rfl) ?_
            obtain ⟨r15, mu16, hc, hE⟩ := bd2_some hE
            refine xc_V1 (rest := []) (c_X9_move hc) mw_X9_move km_X9_125 hx hb hml hown hG hI xA_of (wG_atE (by omega) eY_0) rfl rfl ⟨Nat.le_of_ble_eq_true rfl, Nat.le_of_ble_eq_true rfl⟩ rfl hl.1 rfl (Nat.le_of_ble_eq_true rfl) dX9_doOrder_148 (fun H locs hI => ?_)
            obtain ⟨rfl, rfl⟩ := sm2 hE
            exact xr_i hx hb hr hlk hG hI dX9_doOrder_151
          · rw [if_neg k36_109] at hE
            by_cases k36_114 : v5 = 114
            · rw [if_pos k36_114] at hE
              refine lv_tableIn (tgt := 152) hx hb dX9_doOrder_36 (by rw [k36_114]; decide) (by rw [k36_114]; decide) (by rw [k36_114]; rfl) (by decide) ?_
              refine lv_aload_n hx hb dX9_doOrder_152 rfl (lv_at hl 4 rfl) ?_
              refine lv_iload_n hx hb dX9_doOrder_153 rfl (lv_at hl 3 rfl) ?_
              refine lv_iload_n hx hb dX9_doOrder_154 rfl (lv_at hl 2 rfl) ?_
              refine lv_bipush (v := 32) hx hb dX9_doOrder_155 (by decide) ?_
              refine lv_iload hx hb dX9_doOrder_157 (lv_at hl 1 rfl) ?_
              obtain ⟨r17, mu18, hc, hE⟩ := bd2_some hE
              refine xc_V1 (rest := []) (c_X9_put hc) mw_X9_put km_X9_129 hx hb hml hown hG hI xA_of (wG_atE (by omega) eY_0) rfl rfl ⟨Nat.le_of_ble_eq_true rfl, Nat.le_of_ble_eq_true rfl⟩ rfl hl.1 rfl (Nat.le_of_ble_eq_true rfl) dX9_doOrder_159 (fun H locs hI => ?_)
              obtain ⟨rfl, rfl⟩ := sm2 hE
              exact xr_i hx hb hr hlk hG hI dX9_doOrder_162
            · rw [if_neg k36_114] at hE
              refine xs_dflt (tgt := 186) hx hb dX9_doOrder_36 (fun j hj => match j, hj with | 0, _ => Or.inr (lv_neT k36_97 rfl) | 1, _ => Or.inl rfl | 2, _ => Or.inl rfl | 3, _ => Or.inr (lv_neT k36_100 rfl) | 4, _ => Or.inr (lv_neT k36_101 rfl) | 5, _ => Or.inr (lv_neT k36_102 rfl) | 6, _ => Or.inl rfl | 7, _ => Or.inl rfl | 8, _ => Or.inl rfl | 9, _ => Or.inl rfl | 10, _ => Or.inl rfl | 11, _ => Or.inl rfl | 12, _ => Or.inr (lv_neT k36_109 rfl) | 13, _ => Or.inl rfl | 14, _ => Or.inl rfl | 15, _ => Or.inl rfl | 16, _ => Or.inl rfl | 17, _ => Or.inr (lv_neT k36_114 rfl) | q + 18, hq => absurd hq (Nat.not_lt.mpr (Nat.le_add_left _ _))) (by decide) (by decide) ?_
              refine lv_aload_n hx hb dX9_doOrder_186 rfl (lv_at hl 4 rfl) ?_
              refine lv_iload_n hx hb dX9_doOrder_187 rfl (lv_at hl 3 rfl) ?_
              obtain ⟨r19, mu20, hc, hE⟩ := bd2_some hE
              refine xc_V1 (rest := []) (c_X9_prefer hc) mw_X9_prefer km_X9_139 hx hb hml hown hG hI xA_of (wG_atE (by omega) eY_0) rfl rfl ⟨Nat.le_of_ble_eq_true rfl, Nat.le_of_ble_eq_true rfl⟩ rfl hl.1 rfl (Nat.le_of_ble_eq_true rfl) dX9_doOrder_188 (fun H locs hI => ?_)
              obtain ⟨rfl, rfl⟩ := sm2 hE
              exact xr_i hx hb hr hlk hG hI dX9_doOrder_191
def X9_does_L33 : Nat → Int32 → Mem → Option (Int32 × Mem)
  | 0, _, _ => none
  | n33 + 1, x4, mu5 =>
    (if (mu5 0 11) ≤ x4 then (X9_bring mu5 3 0 2 0 258 : Option Mem).bind fun (mu6 : Mem) => bd2 (X9_finish mu6 (mu6 0 11)) fun (r7 : Int32) (mu8 : Mem) => some (r7, mu8) else bd2 (X9_doOrder mu5 x4) fun (r9 : Int32) (mu10 : Mem) => (X9_isRefused r9 : Option Bool).bind fun (r11 : Bool) => (if (b2i r11) = 0 then X9_does_L33 n33 (x4 + 1) mu10 else (X9_bring mu10 3 0 1 0 258 : Option Mem).bind fun (mu12 : Mem) => some ((-1000) - x4, mu12)))
def X9_does (u : Mem) : Option (Int32 × Mem) :=
  bd2 (X9_readText u) fun (r1 : Int32) (mu2 : Mem) => (if r1 = (-1) then (X9_bring mu2 1 0 3 0 258 : Option Mem).bind fun (mu3 : Mem) => X9_does_L33 fu 0 mu3 else some ((-10) - r1, mu2))
set_option maxHeartbeats 4000000 in
set_option maxRecDepth 100000 in
theorem c_X9_does {l : Launch} {D : va_G} {A : Nat → Nat} {cI cZ cD : ClassId} {u u1 : Mem} {r : Int32}  (hE : X9_does u = some (r, u1)) : Ct l yX9_does cX9_does 3 (some .int) (rmOf 5 122) D (tyL cI cZ cD) [.ref (A 0)] (wY A cI u) (some (.int r)) (wY A cI u1) := by
  refine Ct.ofW (by decide +kernel) (fun p e s m below meth c hC hI => ?_)
  obtain ⟨hx, hb, hml, hown, hr, hlk, hG⟩ := hC
  have hown : s.vm.findClass RX9 = some m.cls := hown
  have hl := lv_entry ([.ref (A 0)] : List Value) (n := 3) (Nat.le_of_ble_eq_true rfl)
  rw [lg_entry_eq]
  generalize (lg_sl ([.ref (A 0)] : List Value) ++ List.replicate (3 - (lg_sl ([.ref (A 0)] : List Value)).length) Slot.unset).toArray = ls at hl ⊢
  have hl : lv_has ls 3 [(0, .ref (A 0))] := hl
  unfold X9_does at hE
  refine lv_aload_n hx hb dX9_does_0 rfl (lv_at hl 0 rfl) ?_
  obtain ⟨r1, mu2, hc, hE⟩ := bd2_some hE
  refine xc_V1 (rest := []) (c_X9_readText hc) mw_X9_readText km_X9_241 hx hb hml hown hG hI xA_of (wG_atE (by omega) eY_0) rfl rfl ⟨Nat.le_of_ble_eq_true rfl, Nat.le_of_ble_eq_true rfl⟩ rfl hl.1 rfl (Nat.le_of_ble_eq_true rfl) dX9_does_1 (fun H locs hI => ?_)
  refine lv_istore_n (lv' := [(1, .int r1), (0, .ref (A 0))]) hx hb dX9_does_4 rfl hl (by decide) rfl (fun ls hl => ?_)
  refine lv_iload_n hx hb dX9_does_5 rfl (lv_at hl 0 rfl) ?_
  refine lv_iconst (v := (-1)) hx hb dX9_does_6 (by decide) ?_
  refine lv_icmp_eq (tgt := 15) hx hb dX9_does_7 (by decide) (fun c7 => ?_) (fun c7 => ?_)
  · rw [if_pos c7] at hE
    refine lv_aload_n hx hb dX9_does_15 rfl (lv_at hl 1 rfl) ?_
    refine xg_get (C := RX9) (T := TX9) (M := 22) hx hb hown hG hI (by omega) eY_0 rfl inX9 0 (by decide) kf_X9_7 rfl dX9_does_16 ?_
    refine lv_iconst (v := 0) hx hb dX9_does_19 (by decide) ?_
    refine lv_aload_n hx hb dX9_does_20 rfl (lv_at hl 1 rfl) ?_
    refine xg_get (C := RX9) (T := TX9) (M := 22) hx hb hown hG hI (by omega) eY_0 rfl inX9 2 (by decide) kf_X9_16 rfl dX9_does_21 ?_
    refine lv_iconst (v := 0) hx hb dX9_does_24 (by decide) ?_
    refine lv_sipush (v := 258) hx hb dX9_does_25 (by decide) ?_
    obtain ⟨mu3, hc, hE⟩ := bd1_some hE
    refine xc_S0 (rest := []) (c_X9_bring (by omega) (by omega) hc) mw_X9_bring km_X9_52 hx hb hml hown hG hI xA_of ⟨Nat.le_of_ble_eq_true rfl, Nat.le_of_ble_eq_true rfl⟩ rfl hl.1 rfl (Nat.le_of_ble_eq_true rfl) dX9_does_28 (fun H locs hI => ?_)
    refine lv_iconst (v := 0) hx hb dX9_does_31 (by decide) ?_
    refine lv_istore_n (lv' := [(2, .int 0), (1, .int r1), (0, .ref (A 0))]) hx hb dX9_does_32 rfl hl (by decide) rfl (fun ls hl => ?_)
    have hL33 : ∀ (n33 : Nat) (x4 : Int32) (mu5 : Mem) (H : Heap) (locs : List Loc) (ls : Array Slot), X9_does_L33 n33 x4 mu5 = some (r, u1) → xI D (va_A (wY A cI u) s.heap.size) s.heap (wY A cI mu5) H locs → lv_has ls 3 [(0, .ref (A 0)), (2, .int x4)] → W p l e (rmOf 5 122) s m ([.ref (A 0)] : List Value).toArray below meth c H locs 0 0 (xQ D (tyL cI cZ cD) below ([.ref (A 0)] : List Value).toArray s (wY A cI u) (some (.int r)) (wY A cI u1)) (F0 m 33 ls []) := by
      intro n33
      induction n33 with
      | zero =>
        intro x4 mu5 H locs ls hE
        exact absurd hE (by simp [X9_does_L33])
      | succ n33 ih33 =>
        intro x4 mu5 H locs ls hE hI hl
        rw [X9_does_L33] at hE
        refine lv_iload_n hx hb dX9_does_33 rfl (lv_at hl 1 rfl) ?_
        refine lv_aload_n hx hb dX9_does_34 rfl (lv_at hl 0 rfl) ?_
        refine xg_get (C := RX9) (T := TX9) (M := 22) hx hb hown hG hI (by omega) eY_0 rfl inX9 11 (by decide) kf_X9_229 rfl dX9_does_35 ?_
        refine lv_icmp_ge (tgt := 80) hx hb dX9_does_38 (by decide) (fun c38 => ?_) (fun c38 => ?_)
        · rw [if_pos c38] at hE
          refine lv_aload_n hx hb dX9_does_80 rfl (lv_at hl 0 rfl) ?_
          refine xg_get (C := RX9) (T := TX9) (M := 22) hx hb hown hG hI (by omega) eY_0 rfl inX9 2 (by decide) kf_X9_16 rfl dX9_does_81 ?_
          refine lv_iconst (v := 0) hx hb dX9_does_84 (by decide) ?_
          refine lv_aload_n hx hb dX9_does_85 rfl (lv_at hl 0 rfl) ?_
          refine xg_get (C := RX9) (T := TX9) (M := 22) hx hb hown hG hI (by omega) eY_0 rfl inX9 1 (by decide) kf_X9_13 rfl dX9_does_86 ?_
          refine lv_iconst (v := 0) hx hb dX9_does_89 (by decide) ?_
          refine lv_sipush (v := 258) hx hb dX9_does_90 (by decide) ?_
          obtain ⟨mu6, hc, hE⟩ := bd1_some hE
          refine xc_S0 (rest := []) (c_X9_bring (by omega) (by omega) hc) mw_X9_bring km_X9_52 hx hb hml hown hG hI xA_of ⟨Nat.le_of_ble_eq_true rfl, Nat.le_of_ble_eq_true rfl⟩ rfl hl.1 rfl (Nat.le_of_ble_eq_true rfl) dX9_does_93 (fun H locs hI => ?_)
          refine lv_aload_n hx hb dX9_does_96 rfl (lv_at hl 0 rfl) ?_
          refine lv_aload_n hx hb dX9_does_97 rfl (lv_at hl 0 rfl) ?_
          refine xg_get (C := RX9) (T := TX9) (M := 22) hx hb hown hG hI (by omega) eY_0 rfl inX9 11 (by decide) kf_X9_229 rfl dX9_does_98 ?_
          obtain ⟨r7, mu8, hc, hE⟩ := bd2_some hE
          refine xc_V1 (rest := []) (c_X9_finish hc) mw_X9_finish km_X9_122 hx hb hml hown hG hI xA_of (wG_atE (by omega) eY_0) rfl rfl ⟨Nat.le_of_ble_eq_true rfl, Nat.le_of_ble_eq_true rfl⟩ rfl hl.1 rfl (Nat.le_of_ble_eq_true rfl) dX9_does_101 (fun H locs hI => ?_)
          obtain ⟨rfl, rfl⟩ := sm2 hE
          exact xr_i hx hb hr hlk hG hI dX9_does_104
        · rw [if_neg c38] at hE
          refine lv_aload_n hx hb dX9_does_41 rfl (lv_at hl 0 rfl) ?_
          refine lv_iload_n hx hb dX9_does_42 rfl (lv_at hl 1 rfl) ?_
          obtain ⟨r9, mu10, hc, hE⟩ := bd2_some hE
          refine xc_V1 (rest := []) (c_X9_doOrder hc) mw_X9_doOrder km_X9_244 hx hb hml hown hG hI xA_of (wG_atE (by omega) eY_0) rfl rfl ⟨Nat.le_of_ble_eq_true rfl, Nat.le_of_ble_eq_true rfl⟩ rfl hl.1 rfl (Nat.le_of_ble_eq_true rfl) dX9_does_43 (fun H locs hI => ?_)
          obtain ⟨r11, hc, hE⟩ := bd1_some hE
          refine xc_S1 (rest := []) (c_X9_isRefused hc) mw_X9_isRefused km_X9_56 hx hb hml hown hG hI xA_of ⟨Nat.le_of_ble_eq_true rfl, Nat.le_of_ble_eq_true rfl⟩ rfl hl.1 rfl (Nat.le_of_ble_eq_true rfl) dX9_does_46 (fun H locs hI => ?_)
          refine lv_if_eq (tgt := 74) hx hb dX9_does_49 (by decide) (fun c49 => ?_) (fun c49 => ?_)
          · rw [if_pos c49] at hE
            refine lv_iinc (v := x4 + 1) (lv' := [(2, .int (x4 + 1)), (0, .ref (A 0))]) hx hb dX9_does_74 hl (k := 1) rfl rfl (by decide) rfl (fun ls hl => ?_)
            refine lv_goto (tgt := 33) hx hb dX9_does_77 (by decide) ?_
            exact ih33 _ _ _ _ _ hE hI (lv_sub hl [1, 0] rfl)
          · rw [if_neg c49] at hE
            refine lv_aload_n hx hb dX9_does_52 rfl (lv_at hl 0 rfl) ?_
            refine xg_get (C := RX9) (T := TX9) (M := 22) hx hb hown hG hI (by omega) eY_0 rfl inX9 2 (by decide) kf_X9_16 rfl dX9_does_53 ?_
            refine lv_iconst (v := 0) hx hb dX9_does_56 (by decide) ?_
            refine lv_aload_n hx hb dX9_does_57 rfl (lv_at hl 0 rfl) ?_
            refine xg_get (C := RX9) (T := TX9) (M := 22) hx hb hown hG hI (by omega) eY_0 rfl inX9 0 (by decide) kf_X9_7 rfl dX9_does_58 ?_
            refine lv_iconst (v := 0) hx hb dX9_does_61 (by decide) ?_
            refine lv_sipush (v := 258) hx hb dX9_does_62 (by decide) ?_
            obtain ⟨mu12, hc, hE⟩ := bd1_some hE
            refine xc_S0 (rest := []) (c_X9_bring (by omega) (by omega) hc) mw_X9_bring km_X9_52 hx hb hml hown hG hI xA_of ⟨Nat.le_of_ble_eq_true rfl, Nat.le_of_ble_eq_true rfl⟩ rfl hl.1 rfl (Nat.le_of_ble_eq_true rfl) dX9_does_65 (fun H locs hI => ?_)
            refine lv_sipush (v := (-1000)) hx hb dX9_does_68 (by decide) ?_
            refine lv_iload_n hx hb dX9_does_71 rfl (lv_at hl 1 rfl) ?_
            refine lv_isub hx hb dX9_does_72 ?_
            obtain ⟨rfl, rfl⟩ := sm2 hE
            exact xr_i hx hb hr hlk hG hI dX9_does_73
    exact hL33 _ _ _ _ _ _ hE hI (lv_sub hl [2, 0] rfl)
  · rw [if_neg c7] at hE
    refine lv_bipush (v := (-10)) hx hb dX9_does_10 (by decide) ?_
    refine lv_iload_n hx hb dX9_does_12 rfl (lv_at hl 0 rfl) ?_
    refine lv_isub hx hb dX9_does_13 ?_
    obtain ⟨rfl, rfl⟩ := sm2 hE
    exact xr_i hx hb hr hlk hG hI dX9_does_14
def X9_back (u : Mem) : Option (Int32 × Mem) :=
  (if (u 0 4) = 0 then bd2 (X9_refuse u (-3)) fun (r3 : Int32) (mu4 : Mem) => some (r3, mu4) else (stF u 0 4 ((u 0 4) - 1)).bind fun mu1 => (X9_bring mu1 4 (258 * (mu1 0 4)) 1 0 258 : Option Mem).bind fun (mu2 : Mem) => some (mu2 0 4, mu2))
set_option maxHeartbeats 4000000 in
set_option maxRecDepth 100000 in
theorem c_X9_back {l : Launch} {D : va_G} {A : Nat → Nat} {cI cZ cD : ClassId} {u u1 : Mem} {r : Int32}  (hE : X9_back u = some (r, u1)) : Ct l yX9_back cX9_back 1 (some .int) (rmOf 1 25) D (tyL cI cZ cD) [.ref (A 0)] (wY A cI u) (some (.int r)) (wY A cI u1) := by
  refine Ct.ofW (by decide +kernel) (fun p e s m below meth c hC hI => ?_)
  obtain ⟨hx, hb, hml, hown, hr, hlk, hG⟩ := hC
  have hown : s.vm.findClass RX9 = some m.cls := hown
  have hl := lv_entry ([.ref (A 0)] : List Value) (n := 1) (Nat.le_of_ble_eq_true rfl)
  rw [lg_entry_eq]
  generalize (lg_sl ([.ref (A 0)] : List Value) ++ List.replicate (1 - (lg_sl ([.ref (A 0)] : List Value)).length) Slot.unset).toArray = ls at hl ⊢
  have hl : lv_has ls 1 [(0, .ref (A 0))] := hl
  unfold X9_back at hE
  refine lv_aload_n hx hb dX9_back_0 rfl (lv_at hl 0 rfl) ?_
  refine xg_get (C := RX9) (T := TX9) (M := 22) hx hb hown hG hI (by omega) eY_0 rfl inX9 4 (by decide) kf_X9_64 rfl dX9_back_1 ?_
  refine lv_if_ne (tgt := 14) hx hb dX9_back_4 (by decide) (fun c4 => ?_) (fun c4 => ?_)
  · rw [if_neg c4] at hE
    refine lv_aload_n hx hb dX9_back_14 rfl (lv_at hl 0 rfl) ?_
    refine lv_dup hx hb dX9_back_15 rfl ?_
    refine xg_get (C := RX9) (T := TX9) (M := 22) hx hb hown hG hI (by omega) eY_0 rfl inX9 4 (by decide) kf_X9_64 rfl dX9_back_16 ?_
    refine lv_iconst (v := 1) hx hb dX9_back_19 (by decide) ?_
    refine lv_isub hx hb dX9_back_20 ?_
    obtain ⟨mu1, hu, hE⟩ := bd1_some hE
    refine xg_put (C := RX9) (T := TX9) (M := 22) hx hb hown hG hI (by omega) eY_0 rfl inX9 tyX9 tyX9_ok nmX9 4 (by decide) kf_X9_64 rfl (ty := .int) (by decide +kernel) rfl rfl (Nat.le_of_ble_eq_true rfl) rfl hu dX9_back_21 (fun H locs hI => ?_)
    refine lv_aload_n hx hb dX9_back_24 rfl (lv_at hl 0 rfl) ?_
    refine xg_get (C := RX9) (T := TX9) (M := 22) hx hb hown hG hI (by omega) eY_0 rfl inX9 3 (by decide) kf_X9_19 rfl dX9_back_25 ?_
    refine lv_sipush (v := 258) hx hb dX9_back_28 (by decide) ?_
    refine lv_aload_n hx hb dX9_back_31 rfl (lv_at hl 0 rfl) ?_
    refine xg_get (C := RX9) (T := TX9) (M := 22) hx hb hown hG hI (by omega) eY_0 rfl inX9 4 (by decide) kf_X9_64 rfl dX9_back_32 ?_
    refine lv_imul hx hb dX9_back_35 ?_
    refine lv_aload_n hx hb dX9_back_36 rfl (lv_at hl 0 rfl) ?_
    refine xg_get (C := RX9) (T := TX9) (M := 22) hx hb hown hG hI (by omega) eY_0 rfl inX9 0 (by decide) kf_X9_7 rfl dX9_back_37 ?_
    refine lv_iconst (v := 0) hx hb dX9_back_40 (by decide) ?_
    refine lv_sipush (v := 258) hx hb dX9_back_41 (by decide) ?_
    obtain ⟨mu2, hc, hE⟩ := bd1_some hE
    refine xc_S0 (rest := []) (c_X9_bring (by omega) (by omega) hc) mw_X9_bring km_X9_52 hx hb hml hown hG hI xA_of ⟨Nat.le_of_ble_eq_true rfl, Nat.le_of_ble_eq_true rfl⟩ rfl hl.1 rfl (Nat.le_of_ble_eq_true rfl) dX9_back_44 (fun H locs hI => ?_)
    refine lv_aload_n hx hb dX9_back_47 rfl (lv_at hl 0 rfl) ?_
    refine xg_get (C := RX9) (T := TX9) (M := 22) hx hb hown hG hI (by omega) eY_0 rfl inX9 4 (by decide) kf_X9_64 rfl dX9_back_48 ?_
    obtain ⟨rfl, rfl⟩ := sm2 hE
    exact xr_i hx hb hr hlk hG hI dX9_back_51
  · rw [if_pos c4] at hE
    refine lv_aload_n hx hb dX9_back_7 rfl (lv_at hl 0 rfl) ?_
    refine lv_bipush (v := (-3)) hx hb dX9_back_8 (by decide) ?_
    obtain ⟨r3, mu4, hc, hE⟩ := bd2_some hE
    refine xc_V1 (rest := []) (c_X9_refuse hc) mw_X9_refuse km_X9_60 hx hb hml hown hG hI xA_of (wG_atE (by omega) eY_0) rfl rfl ⟨Nat.le_of_ble_eq_true rfl, Nat.le_of_ble_eq_true rfl⟩ rfl hl.1 rfl (Nat.le_of_ble_eq_true rfl) dX9_back_10 (fun H locs hI => ?_)
    obtain ⟨rfl, rfl⟩ := sm2 hE
    exact xr_i hx hb hr hlk hG hI dX9_back_13
def X9_refusedOf (u : Mem) (p1 : Int32) : Option (Int32) :=
  (if 3 ≤ p1 then (if p1 = 3 then some (u 0 7) else some (u 0 4)) else (rd 3 (u 5) p1).bind fun v1 => some v1)
set_option maxHeartbeats 4000000 in
set_option maxRecDepth 100000 in
theorem c_X9_refusedOf {l : Launch} {D : va_G} {A : Nat → Nat} {cI cZ cD : ClassId} {u : Mem} {p1 : Int32} {r : Int32}  (hE : X9_refusedOf u p1 = some (r)) : Ct l yX9_refusedOf cX9_refusedOf 2 (some .int) (rmOf 0 0) D (tyL cI cZ cD) [.ref (A 0), .int p1] (wY A cI u) (some (.int r)) (wY A cI u) := by
  refine Ct.ofW (by decide +kernel) (fun p e s m below meth c hC hI => ?_)
  obtain ⟨hx, hb, hml, hown, hr, hlk, hG⟩ := hC
  have hown : s.vm.findClass RX9 = some m.cls := hown
  have hl := lv_entry ([.ref (A 0), .int p1] : List Value) (n := 2) (Nat.le_of_ble_eq_true rfl)
  rw [lg_entry_eq]
  generalize (lg_sl ([.ref (A 0), .int p1] : List Value) ++ List.replicate (2 - (lg_sl ([.ref (A 0), .int p1] : List Value)).length) Slot.unset).toArray = ls at hl ⊢
  have hl : lv_has ls 2 [(0, .ref (A 0)), (1, .int p1)] := hl
  unfold X9_refusedOf at hE
  refine lv_iload_n hx hb dX9_refusedOf_0 rfl (lv_at hl 1 rfl) ?_
  refine lv_iconst (v := 3) hx hb dX9_refusedOf_1 (by decide) ?_
  refine lv_icmp_ge (tgt := 14) hx hb dX9_refusedOf_2 (by decide) (fun c2 => ?_) (fun c2 => ?_)
  · rw [if_pos c2] at hE
    refine lv_iload_n hx hb dX9_refusedOf_14 rfl (lv_at hl 1 rfl) ?_
    refine lv_iconst (v := 3) hx hb dX9_refusedOf_15 (by decide) ?_
    refine lv_icmp_ne (tgt := 26) hx hb dX9_refusedOf_16 (by decide) (fun c16 => ?_) (fun c16 => ?_)
    · rw [if_neg c16] at hE
      refine lv_aload_n hx hb dX9_refusedOf_26 rfl (lv_at hl 0 rfl) ?_
      refine xg_get (C := RX9) (T := TX9) (M := 22) hx hb hown hG hI (by omega) eY_0 rfl inX9 4 (by decide) kf_X9_64 rfl dX9_refusedOf_27 ?_
      obtain rfl := sm1 hE
      exact xr_i hx hb hr hlk hG hI dX9_refusedOf_30
    · rw [if_pos c16] at hE
      refine lv_aload_n hx hb dX9_refusedOf_19 rfl (lv_at hl 0 rfl) ?_
      refine xg_get (C := RX9) (T := TX9) (M := 22) hx hb hown hG hI (by omega) eY_0 rfl inX9 7 (by decide) kf_X9_217 rfl dX9_refusedOf_20 ?_
      refine lv_goto (tgt := 30) hx hb dX9_refusedOf_23 (by decide) ?_
      obtain rfl := sm1 hE
      exact xr_i hx hb hr hlk hG hI dX9_refusedOf_30
  · rw [if_neg c2] at hE
    refine lv_aload_n hx hb dX9_refusedOf_5 rfl (lv_at hl 0 rfl) ?_
    refine xg_get (C := RX9) (T := TX9) (M := 22) hx hb hown hG hI (by omega) eY_0 rfl inX9 5 (by decide) kf_X9_22 rfl dX9_refusedOf_6 ?_
    refine lv_iload_n hx hb dX9_refusedOf_9 rfl (lv_at hl 1 rfl) ?_
    obtain ⟨v1, hv, hE⟩ := bd1_some hE
    refine xg_iald 0 hx hb hG hI (by omega) eY_5 rfl hv dX9_refusedOf_10 ?_
    refine lv_goto (tgt := 30) hx hb dX9_refusedOf_11 (by decide) ?_
    obtain rfl := sm1 hE
    exact xr_i hx hb hr hlk hG hI dX9_refusedOf_30
def X9_refused (u : Mem) (p1 : Int32) : Option (Int32 × Mem) :=
  (X9_in p1 0 4 : Option Bool).bind fun (r1 : Bool) => (if (b2i r1) = 0 then bd2 (X9_refuse u (-2)) fun (r2 : Int32) (mu3 : Mem) => some (r2, mu3) else (X9_refusedOf u p1 : Option Int32).bind fun (r4 : Int32) => some (r4, u))
set_option maxHeartbeats 4000000 in
set_option maxRecDepth 100000 in
theorem c_X9_refused {l : Launch} {D : va_G} {A : Nat → Nat} {cI cZ cD : ClassId} {u u1 : Mem} {p1 : Int32} {r : Int32}  (hE : X9_refused u p1 = some (r, u1)) : Ct l yX9_refused cX9_refused 2 (some .int) (rmOf 1 22) D (tyL cI cZ cD) [.ref (A 0), .int p1] (wY A cI u) (some (.int r)) (wY A cI u1) := by
  refine Ct.ofW (by decide +kernel) (fun p e s m below meth c hC hI => ?_)
  obtain ⟨hx, hb, hml, hown, hr, hlk, hG⟩ := hC
  have hown : s.vm.findClass RX9 = some m.cls := hown
  have hl := lv_entry ([.ref (A 0), .int p1] : List Value) (n := 2) (Nat.le_of_ble_eq_true rfl)
  rw [lg_entry_eq]
  generalize (lg_sl ([.ref (A 0), .int p1] : List Value) ++ List.replicate (2 - (lg_sl ([.ref (A 0), .int p1] : List Value)).length) Slot.unset).toArray = ls at hl ⊢
  have hl : lv_has ls 2 [(0, .ref (A 0)), (1, .int p1)] := hl
  unfold X9_refused at hE
  refine lv_iload_n hx hb dX9_refused_0 rfl (lv_at hl 1 rfl) ?_
  refine lv_iconst (v := 0) hx hb dX9_refused_1 (by decide) ?_
  refine lv_iconst (v := 4) hx hb dX9_refused_2 (by decide) ?_
  obtain ⟨r1, hc, hE⟩ := bd1_some hE
  refine xc_S1 (rest := []) (c_X9_in hc) mw_X9_in km_X9_68 hx hb hml hown hG hI xA_of ⟨Nat.le_of_ble_eq_true rfl, Nat.le_of_ble_eq_true rfl⟩ rfl hl.1 rfl (Nat.le_of_ble_eq_true rfl) dX9_refused_3 (fun H locs hI => ?_)
  refine lv_if_eq (tgt := 17) hx hb dX9_refused_6 (by decide) (fun c6 => ?_) (fun c6 => ?_)
  · rw [if_pos c6] at hE
    refine lv_aload_n hx hb dX9_refused_17 rfl (lv_at hl 0 rfl) ?_
    refine lv_bipush (v := (-2)) hx hb dX9_refused_18 (by decide) ?_
    obtain ⟨r2, mu3, hc, hE⟩ := bd2_some hE
    refine xc_V1 (rest := []) (c_X9_refuse hc) mw_X9_refuse km_X9_60 hx hb hml hown hG hI xA_of (wG_atE (by omega) eY_0) rfl rfl ⟨Nat.le_of_ble_eq_true rfl, Nat.le_of_ble_eq_true rfl⟩ rfl hl.1 rfl (Nat.le_of_ble_eq_true rfl) dX9_refused_20 (fun H locs hI => ?_)
    obtain ⟨rfl, rfl⟩ := sm2 hE
    exact xr_i hx hb hr hlk hG hI dX9_refused_23
  · rw [if_neg c6] at hE
    refine lv_aload_n hx hb dX9_refused_9 rfl (lv_at hl 0 rfl) ?_
    refine lv_iload_n hx hb dX9_refused_10 rfl (lv_at hl 1 rfl) ?_
    obtain ⟨r4, hc, hE⟩ := bd1_some hE
    refine xc_V1 (rest := []) (c_X9_refusedOf hc) mw_X9_refusedOf km_X9_247 hx hb hml hown hG hI xA_of (wG_atE (by omega) eY_0) rfl rfl ⟨Nat.le_of_ble_eq_true rfl, Nat.le_of_ble_eq_true rfl⟩ rfl hl.1 rfl (Nat.le_of_ble_eq_true rfl) dX9_refused_11 (fun H locs hI => ?_)
    refine lv_goto (tgt := 23) hx hb dX9_refused_14 (by decide) ?_
    obtain ⟨rfl, rfl⟩ := sm2 hE
    exact xr_i hx hb hr hlk hG hI dX9_refused_23
def X9_digest_L218 : Nat → Int64 → Int32 → Mem → Option (Int64 × Mem)
  | 0, _, _, _ => none
  | n218 + 1, x22, x23, mu24 =>
    (if 3 ≤ x23 then some (x22, mu24) else (X9_layScript mu24 x23 : Option Mem).bind fun (mu28 : Mem) => X9_digest_L218 n218 ((31 * x22) + (((mu28 0 17) : Int32).toInt64)) (x23 + 1) mu28)
def X9_digest_L186 (mu16 : Mem) : Nat → Int64 → Int32 → Option (Int64)
  | 0, _, _ => none
  | n186 + 1, x18, x19 =>
    (if (3 * (mu16 0 13)) ≤ x19 then some x18 else (rd 480 (mu16 10) x19).bind fun v29 => X9_digest_L186 mu16 n186 ((31 * x18) + ((v29 : Int32).toInt64)) (x19 + 1))
def X9_digest_L126 (x13 : Int32) (mu31 : Mem) (x35 : Int32) : Nat → Int64 → Int32 → Option (Int64)
  | 0, _, _ => none
  | n126 + 1, x39, x40 =>
    (if 4 ≤ x40 then some x39 else (rd 16 (mu31 11) x35).bind fun v43 => (X9_ofSection mu31 x13 v43 x40 : Option Int32).bind fun (r44 : Int32) => X9_digest_L126 x13 mu31 x35 n126 ((31 * x39) + ((r44 : Int32).toInt64)) (x40 + 1))
def X9_digest_L101 (x13 : Int32) (r30 : Int32) (mu31 : Mem) : Nat → Int64 → Int32 → Option (Int64)
  | 0, _, _ => none
  | n101 + 1, x34, x35 =>
    (if r30 ≤ x35 then some x34 else (rd 16 (mu31 11) x35).bind fun v38 => (X9_digest_L126 x13 mu31 x35 fu ((31 * x34) + ((v38 : Int32).toInt64)) 0 : Option Int64).bind fun (x41 : Int64) => X9_digest_L101 x13 r30 mu31 n101 x41 (x35 + 1))
def X9_digest_L62 : Nat → Int64 → Int32 → Mem → Option (Int64 × Mem)
  | 0, _, _, _ => none
  | n62 + 1, x12, x13, mu14 =>
    (if 4 ≤ x13 then some (x12, mu14) else bd2 (X9_walkAll mu14 x13) fun (r30 : Int32) (mu31 : Mem) => (X9_manyIn mu31 x13 : Option Int32).bind fun (r32 : Int32) => (X9_deepOf mu31 x13 : Option Int32).bind fun (r33 : Int32) => (X9_digest_L101 x13 r30 mu31 fu ((31 * ((31 * x12) + ((r32 : Int32).toInt64))) + ((r33 : Int32).toInt64)) 0 : Option Int64).bind fun (x36 : Int64) => X9_digest_L62 n62 x36 (x13 + 1) mu31)
def X9_digest_L32 : Nat → Int64 → Int32 → Mem → Option (Int64 × Mem)
  | 0, _, _, _ => none
  | n32 + 1, x5, x6, mu7 =>
    (if 4 ≤ x6 then some (x5, mu7) else bd2 (X9_toldOf mu7 x6) fun (r45 : Int32) (mu46 : Mem) => X9_digest_L32 n32 ((31 * x5) + ((r45 : Int32).toInt64)) (x6 + 1) mu46)
def X9_digest_L6 (u : Mem) : Nat → Int64 → Int32 → Option (Int64)
  | 0, _, _ => none
  | n6 + 1, x1, x2 =>
    (if 5 ≤ x2 then some x1 else (X9_refusedOf u x2 : Option Int32).bind fun (r47 : Int32) => X9_digest_L6 u n6 ((31 * x1) + ((r47 : Int32).toInt64)) (x2 + 1))
def X9_digest (u : Mem) : Option (Int64 × Mem) :=
  (X9_digest_L6 u fu 1703 0 : Option Int64).bind fun (x3 : Int64) => bd2 (X9_digest_L32 fu x3 0 u) fun (x8 : Int64) (mu9 : Mem) => (X9_merge mu9 : Option Mem).bind fun (mu11 : Mem) => bd2 (X9_digest_L62 fu x8 0 mu11) fun (x15 : Int64) (mu16 : Mem) => (X9_digest_L186 mu16 fu ((31 * x15) + (((mu16 0 13) : Int32).toInt64)) 0 : Option Int64).bind fun (x20 : Int64) => bd2 (X9_digest_L218 fu x20 1 mu16) fun (x25 : Int64) (mu26 : Mem) => some (x25, mu26)
set_option maxHeartbeats 4000000 in
set_option maxRecDepth 100000 in
theorem c_X9_digest {l : Launch} {D : va_G} {A : Nat → Nat} {cI cZ cD : ClassId} {u u1 : Mem} {r : Int64}  (hE : X9_digest u = some (r, u1)) : Ct l yX9_digest cX9_digest 7 (some .long) (rmOf 5 116) D (tyL cI cZ cD) [.ref (A 0)] (wY A cI u) (some (.long r)) (wY A cI u1) := by
  refine Ct.ofW (by decide +kernel) (fun p e s m below meth c hC hI => ?_)
  obtain ⟨hx, hb, hml, hown, hr, hlk, hG⟩ := hC
  have hown : s.vm.findClass RX9 = some m.cls := hown
  have hl := lv_entry ([.ref (A 0)] : List Value) (n := 7) (Nat.le_of_ble_eq_true rfl)
  rw [lg_entry_eq]
  generalize (lg_sl ([.ref (A 0)] : List Value) ++ List.replicate (7 - (lg_sl ([.ref (A 0)] : List Value)).length) Slot.unset).toArray = ls at hl ⊢
  have hl : lv_has ls 7 [(0, .ref (A 0))] := hl
  unfold X9_digest at hE
  refine lv_ldc2 (v := 1703) hx hb hown (hG.2 _ kc_X9_250 _) dX9_digest_0 ?_
  refine lv_lstore_n (lv' := [(1, .long 1703), (0, .ref (A 0))]) hx hb dX9_digest_3 rfl hl (by decide) rfl (fun ls hl => ?_)
  refine lv_iconst (v := 0) hx hb dX9_digest_4 (by decide) ?_
  refine lv_istore_n (lv' := [(3, .int 0), (1, .long 1703), (0, .ref (A 0))]) hx hb dX9_digest_5 rfl hl (by decide) rfl (fun ls hl => ?_)
  obtain ⟨x3, hZ, hE⟩ := bd1_some hE
  have hX6_3 : ∀ (H : Heap) (locs : List Loc) (ls : Array Slot), xI D (va_A (wY A cI u) s.heap.size) s.heap (wY A cI u) H locs → lv_has ls 7 [(0, .ref (A 0)), (1, .long x3)] → W p l e (rmOf 5 116) s m ([.ref (A 0)] : List Value).toArray below meth c H locs 0 0 (xQ D (tyL cI cZ cD) below ([.ref (A 0)] : List Value).toArray s (wY A cI u) (some (.long r)) (wY A cI u1)) (F0 m 30 ls []) := by
    intro H locs ls hI hl
    clear hZ
    refine lv_iconst (v := 0) hx hb dX9_digest_30 (by decide) ?_
    refine lv_istore_n (lv' := [(3, .int 0), (0, .ref (A 0)), (1, .long x3)]) hx hb dX9_digest_31 rfl hl (by decide) rfl (fun ls hl => ?_)
    obtain ⟨x8, mu9, hZ, hE⟩ := bd2_some hE
    have hX32_9 : ∀ (H : Heap) (locs : List Loc) (ls : Array Slot), xI D (va_A (wY A cI u) s.heap.size) s.heap (wY A cI mu9) H locs → lv_has ls 7 [(0, .ref (A 0)), (1, .long x8)] → W p l e (rmOf 5 116) s m ([.ref (A 0)] : List Value).toArray below meth c H locs 0 0 (xQ D (tyL cI cZ cD) below ([.ref (A 0)] : List Value).toArray s (wY A cI u) (some (.long r)) (wY A cI u1)) (F0 m 56 ls []) := by
      intro H locs ls hI hl
      clear hZ
      refine lv_aload_n hx hb dX9_digest_56 rfl (lv_at hl 0 rfl) ?_
      obtain ⟨mu11, hc, hE⟩ := bd1_some hE
      refine xc_V0 (rest := []) (c_X9_merge hc) mw_X9_merge km_X9_142 hx hb hml hown hG hI xA_of (wG_atE (by omega) eY_0) rfl rfl ⟨Nat.le_of_ble_eq_true rfl, Nat.le_of_ble_eq_true rfl⟩ rfl hl.1 rfl (Nat.le_of_ble_eq_true rfl) dX9_digest_57 (fun H locs hI => ?_)
      refine lv_iconst (v := 0) hx hb dX9_digest_60 (by decide) ?_
      refine lv_istore_n (lv' := [(3, .int 0), (0, .ref (A 0)), (1, .long x8)]) hx hb dX9_digest_61 rfl hl (by decide) rfl (fun ls hl => ?_)
      obtain ⟨x15, mu16, hZ, hE⟩ := bd2_some hE
      have hX62_16 : ∀ (H : Heap) (locs : List Loc) (ls : Array Slot), xI D (va_A (wY A cI u) s.heap.size) s.heap (wY A cI mu16) H locs → lv_has ls 7 [(0, .ref (A 0)), (1, .long x15)] → W p l e (rmOf 5 116) s m ([.ref (A 0)] : List Value).toArray below meth c H locs 0 0 (xQ D (tyL cI cZ cD) below ([.ref (A 0)] : List Value).toArray s (wY A cI u) (some (.long r)) (wY A cI u1)) (F0 m 172 ls []) := by
        intro H locs ls hI hl
        clear hZ
        refine lv_ldc2 (v := 31) hx hb hown (hG.2 _ kc_X9_252 _) dX9_digest_172 ?_
        refine lv_lload_n hx hb dX9_digest_175 rfl (lv_at hl 1 rfl) ?_
        refine lv_lmul hx hb dX9_digest_176 ?_
        refine lv_aload_n hx hb dX9_digest_177 rfl (lv_at hl 0 rfl) ?_
        refine xg_get (C := RX9) (T := TX9) (M := 22) hx hb hown hG hI (by omega) eY_0 rfl inX9 13 (by decide) kf_X9_145 rfl dX9_digest_178 ?_
        refine lv_i2l (v := ((mu16 0 13) : Int32).toInt64) hx hb dX9_digest_181 rfl ?_
        refine lv_ladd hx hb dX9_digest_182 ?_
        refine lv_lstore_n (lv' := [(1, .long ((31 * x15) + (((mu16 0 13) : Int32).toInt64))), (0, .ref (A 0))]) hx hb dX9_digest_183 rfl hl (by decide) rfl (fun ls hl => ?_)
        refine lv_iconst (v := 0) hx hb dX9_digest_184 (by decide) ?_
        refine lv_istore_n (lv' := [(3, .int 0), (1, .long ((31 * x15) + (((mu16 0 13) : Int32).toInt64))), (0, .ref (A 0))]) hx hb dX9_digest_185 rfl hl (by decide) rfl (fun ls hl => ?_)
        obtain ⟨x20, hZ, hE⟩ := bd1_some hE
        have hX186_20 : ∀ (H : Heap) (locs : List Loc) (ls : Array Slot), xI D (va_A (wY A cI u) s.heap.size) s.heap (wY A cI mu16) H locs → lv_has ls 7 [(0, .ref (A 0)), (1, .long x20)] → W p l e (rmOf 5 116) s m ([.ref (A 0)] : List Value).toArray below meth c H locs 0 0 (xQ D (tyL cI cZ cD) below ([.ref (A 0)] : List Value).toArray s (wY A cI u) (some (.long r)) (wY A cI u1)) (F0 m 216 ls []) := by
          intro H locs ls hI hl
          clear hZ
          refine lv_iconst (v := 1) hx hb dX9_digest_216 (by decide) ?_
          refine lv_istore_n (lv' := [(3, .int 1), (0, .ref (A 0)), (1, .long x20)]) hx hb dX9_digest_217 rfl hl (by decide) rfl (fun ls hl => ?_)
          obtain ⟨x25, mu26, hZ, hE⟩ := bd2_some hE
          have hX218_26 : ∀ (H : Heap) (locs : List Loc) (ls : Array Slot), xI D (va_A (wY A cI u) s.heap.size) s.heap (wY A cI mu26) H locs → lv_has ls 7 [(1, .long x25)] → W p l e (rmOf 5 116) s m ([.ref (A 0)] : List Value).toArray below meth c H locs 0 0 (xQ D (tyL cI cZ cD) below ([.ref (A 0)] : List Value).toArray s (wY A cI u) (some (.long r)) (wY A cI u1)) (F0 m 246 ls []) := by
            intro H locs ls hI hl
            clear hZ
            refine lv_lload_n hx hb dX9_digest_246 rfl (lv_at hl 0 rfl) ?_
            obtain ⟨rfl, rfl⟩ := sm2 hE
            exact xr_l hx hb hr hlk hG hI dX9_digest_247
          replace hE := hZ
          clear hZ
          have hL218 : ∀ (n218 : Nat) (x22 : Int64) (x23 : Int32) (mu24 : Mem) (H : Heap) (locs : List Loc) (ls : Array Slot), X9_digest_L218 n218 x22 x23 mu24 = some (x25, mu26) → xI D (va_A (wY A cI u) s.heap.size) s.heap (wY A cI mu24) H locs → lv_has ls 7 [(0, .ref (A 0)), (1, .long x22), (3, .int x23)] → W p l e (rmOf 5 116) s m ([.ref (A 0)] : List Value).toArray below meth c H locs 0 0 (xQ D (tyL cI cZ cD) below ([.ref (A 0)] : List Value).toArray s (wY A cI u) (some (.long r)) (wY A cI u1)) (F0 m 218 ls []) := by
            intro n218
            induction n218 with
            | zero =>
              intro x22 x23 mu24 H locs ls hE
              exact absurd hE (by simp [X9_digest_L218])
            | succ n218 ih218 =>
              intro x22 x23 mu24 H locs ls hE hI hl
              rw [X9_digest_L218] at hE
              refine lv_iload_n hx hb dX9_digest_218 rfl (lv_at hl 2 rfl) ?_
              refine lv_iconst (v := 3) hx hb dX9_digest_219 (by decide) ?_
              refine lv_icmp_ge (tgt := 246) hx hb dX9_digest_220 (by decide) (fun c220 => ?_) (fun c220 => ?_)
              · rw [if_pos c220] at hE
                obtain ⟨rfl, rfl⟩ := sm2 hE
                exact hX218_26 _ _ _ hI (lv_sub hl [1] rfl)
              · rw [if_neg c220] at hE
                refine lv_aload_n hx hb dX9_digest_223 rfl (lv_at hl 0 rfl) ?_
                refine lv_iload_n hx hb dX9_digest_224 rfl (lv_at hl 2 rfl) ?_
                obtain ⟨mu28, hc, hE⟩ := bd1_some hE
                refine xc_V0 (rest := []) (c_X9_layScript hc) mw_X9_layScript km_X9_202 hx hb hml hown hG hI xA_of (wG_atE (by omega) eY_0) rfl rfl ⟨Nat.le_of_ble_eq_true rfl, Nat.le_of_ble_eq_true rfl⟩ rfl hl.1 rfl (Nat.le_of_ble_eq_true rfl) dX9_digest_225 (fun H locs hI => ?_)
                refine lv_ldc2 (v := 31) hx hb hown (hG.2 _ kc_X9_252 _) dX9_digest_228 ?_
                refine lv_lload_n hx hb dX9_digest_231 rfl (lv_at hl 1 rfl) ?_
                refine lv_lmul hx hb dX9_digest_232 ?_
                refine lv_aload_n hx hb dX9_digest_233 rfl (lv_at hl 0 rfl) ?_
                refine xg_get (C := RX9) (T := TX9) (M := 22) hx hb hown hG hI (by omega) eY_0 rfl inX9 17 (by decide) kf_X9_196 rfl dX9_digest_234 ?_
                refine lv_i2l (v := ((mu28 0 17) : Int32).toInt64) hx hb dX9_digest_237 rfl ?_
                refine lv_ladd hx hb dX9_digest_238 ?_
                refine lv_lstore_n (lv' := [(1, .long ((31 * x22) + (((mu28 0 17) : Int32).toInt64))), (0, .ref (A 0)), (3, .int x23)]) hx hb dX9_digest_239 rfl hl (by decide) rfl (fun ls hl => ?_)
                refine lv_iinc (v := x23 + 1) (lv' := [(3, .int (x23 + 1)), (1, .long ((31 * x22) + (((mu28 0 17) : Int32).toInt64))), (0, .ref (A 0))]) hx hb dX9_digest_240 hl (k := 2) rfl rfl (by decide) rfl (fun ls hl => ?_)
                refine lv_goto (tgt := 218) hx hb dX9_digest_243 (by decide) ?_
                exact ih218 _ _ _ _ _ _ hE hI (lv_sub hl [2, 1, 0] rfl)
          exact hL218 _ _ _ _ _ _ _ hE hI (lv_sub hl [1, 2, 0] rfl)
        replace hE := hZ
        clear hZ
        have hL186 : ∀ (n186 : Nat) (x18 : Int64) (x19 : Int32) (H : Heap) (locs : List Loc) (ls : Array Slot), X9_digest_L186 mu16 n186 x18 x19 = some x20 → xI D (va_A (wY A cI u) s.heap.size) s.heap (wY A cI mu16) H locs → lv_has ls 7 [(0, .ref (A 0)), (1, .long x18), (3, .int x19)] → W p l e (rmOf 5 116) s m ([.ref (A 0)] : List Value).toArray below meth c H locs 0 0 (xQ D (tyL cI cZ cD) below ([.ref (A 0)] : List Value).toArray s (wY A cI u) (some (.long r)) (wY A cI u1)) (F0 m 186 ls []) := by
          intro n186
          induction n186 with
          | zero =>
            intro x18 x19 H locs ls hE
            exact absurd hE (by simp [X9_digest_L186])
          | succ n186 ih186 =>
            intro x18 x19 H locs ls hE hI hl
            rw [X9_digest_L186] at hE
            refine lv_iload_n hx hb dX9_digest_186 rfl (lv_at hl 2 rfl) ?_
            refine lv_iconst (v := 3) hx hb dX9_digest_187 (by decide) ?_
            refine lv_aload_n hx hb dX9_digest_188 rfl (lv_at hl 0 rfl) ?_
            refine xg_get (C := RX9) (T := TX9) (M := 22) hx hb hown hG hI (by omega) eY_0 rfl inX9 13 (by decide) kf_X9_145 rfl dX9_digest_189 ?_
            refine lv_imul hx hb dX9_digest_192 ?_
            refine lv_icmp_ge (tgt := 216) hx hb dX9_digest_193 (by decide) (fun c193 => ?_) (fun c193 => ?_)
            · rw [if_pos c193] at hE
              obtain rfl := sm1 hE
              exact hX186_20 _ _ _ hI (lv_sub hl [0, 1] rfl)
            · rw [if_neg c193] at hE
              refine lv_ldc2 (v := 31) hx hb hown (hG.2 _ kc_X9_252 _) dX9_digest_196 ?_
              refine lv_lload_n hx hb dX9_digest_199 rfl (lv_at hl 1 rfl) ?_
              refine lv_lmul hx hb dX9_digest_200 ?_
              refine lv_aload_n hx hb dX9_digest_201 rfl (lv_at hl 0 rfl) ?_
              refine xg_get (C := RX9) (T := TX9) (M := 22) hx hb hown hG hI (by omega) eY_0 rfl inX9 12 (by decide) kf_X9_37 rfl dX9_digest_202 ?_
              refine lv_iload_n hx hb dX9_digest_205 rfl (lv_at hl 2 rfl) ?_
              obtain ⟨v29, hv, hE⟩ := bd1_some hE
              refine xg_iald 0 hx hb hG hI (by omega) eY_10 rfl hv dX9_digest_206 ?_
              refine lv_i2l (v := (v29 : Int32).toInt64) hx hb dX9_digest_207 rfl ?_
              refine lv_ladd hx hb dX9_digest_208 ?_
              refine lv_lstore_n (lv' := [(1, .long ((31 * x18) + ((v29 : Int32).toInt64))), (0, .ref (A 0)), (3, .int x19)]) hx hb dX9_digest_209 rfl hl (by decide) rfl (fun ls hl => ?_)
              refine lv_iinc (v := x19 + 1) (lv' := [(3, .int (x19 + 1)), (1, .long ((31 * x18) + ((v29 : Int32).toInt64))), (0, .ref (A 0))]) hx hb dX9_digest_210 hl (k := 2) rfl rfl (by decide) rfl (fun ls hl => ?_)
              refine lv_goto (tgt := 186) hx hb dX9_digest_213 (by decide) ?_
              exact ih186 _ _ _ _ _ hE hI (lv_sub hl [2, 1, 0] rfl)
        exact hL186 _ _ _ _ _ _ hE hI (lv_sub hl [2, 1, 0] rfl)
      replace hE := hZ
      clear hZ
      have hL62 : ∀ (n62 : Nat) (x12 : Int64) (x13 : Int32) (mu14 : Mem) (H : Heap) (locs : List Loc) (ls : Array Slot), X9_digest_L62 n62 x12 x13 mu14 = some (x15, mu16) → xI D (va_A (wY A cI u) s.heap.size) s.heap (wY A cI mu14) H locs → lv_has ls 7 [(0, .ref (A 0)), (1, .long x12), (3, .int x13)] → W p l e (rmOf 5 116) s m ([.ref (A 0)] : List Value).toArray below meth c H locs 0 0 (xQ D (tyL cI cZ cD) below ([.ref (A 0)] : List Value).toArray s (wY A cI u) (some (.long r)) (wY A cI u1)) (F0 m 62 ls []) := by
        intro n62
        induction n62 with
        | zero =>
          intro x12 x13 mu14 H locs ls hE
          exact absurd hE (by simp [X9_digest_L62])
        | succ n62 ih62 =>
          intro x12 x13 mu14 H locs ls hE hI hl
          rw [X9_digest_L62] at hE
          refine lv_iload_n hx hb dX9_digest_62 rfl (lv_at hl 2 rfl) ?_
          refine lv_iconst (v := 4) hx hb dX9_digest_63 (by decide) ?_
          refine lv_icmp_ge (tgt := 172) hx hb dX9_digest_64 (by decide) (fun c64 => ?_) (fun c64 => ?_)
          · rw [if_pos c64] at hE
            obtain ⟨rfl, rfl⟩ := sm2 hE
            exact hX62_16 _ _ _ hI (lv_sub hl [0, 1] rfl)
          · rw [if_neg c64] at hE
            refine lv_aload_n hx hb dX9_digest_67 rfl (lv_at hl 0 rfl) ?_
            refine lv_iload_n hx hb dX9_digest_68 rfl (lv_at hl 2 rfl) ?_
            obtain ⟨r30, mu31, hc, hE⟩ := bd2_some hE
            refine xc_V1 (rest := []) (c_X9_walkAll hc) mw_X9_walkAll km_X9_190 hx hb hml hown hG hI xA_of (wG_atE (by omega) eY_0) rfl rfl ⟨Nat.le_of_ble_eq_true rfl, Nat.le_of_ble_eq_true rfl⟩ rfl hl.1 rfl (Nat.le_of_ble_eq_true rfl) dX9_digest_69 (fun H locs hI => ?_)
            refine lv_istore (lv' := [(4, .int r30), (0, .ref (A 0)), (1, .long x12), (3, .int x13)]) hx hb dX9_digest_72 hl (by decide) rfl (fun ls hl => ?_)
            refine lv_ldc2 (v := 31) hx hb hown (hG.2 _ kc_X9_252 _) dX9_digest_74 ?_
            refine lv_ldc2 (v := 31) hx hb hown (hG.2 _ kc_X9_252 _) dX9_digest_77 ?_
            refine lv_lload_n hx hb dX9_digest_80 rfl (lv_at hl 2 rfl) ?_
            refine lv_lmul hx hb dX9_digest_81 ?_
            refine lv_aload_n hx hb dX9_digest_82 rfl (lv_at hl 1 rfl) ?_
            refine lv_iload_n hx hb dX9_digest_83 rfl (lv_at hl 3 rfl) ?_
            obtain ⟨r32, hc, hE⟩ := bd1_some hE
            refine xc_V1 (rest := [.long (31 * x12), .long 31]) (c_X9_manyIn hc) mw_X9_manyIn km_X9_112 hx hb hml hown hG hI xA_of (wG_atE (by omega) eY_0) rfl rfl ⟨Nat.le_of_ble_eq_true rfl, Nat.le_of_ble_eq_true rfl⟩ rfl hl.1 rfl (Nat.le_of_ble_eq_true rfl) dX9_digest_84 (fun H locs hI => ?_)
            refine lv_i2l (v := (r32 : Int32).toInt64) hx hb dX9_digest_87 rfl ?_
            refine lv_ladd hx hb dX9_digest_88 ?_
            refine lv_lmul hx hb dX9_digest_89 ?_
            refine lv_aload_n hx hb dX9_digest_90 rfl (lv_at hl 1 rfl) ?_
            refine lv_iload_n hx hb dX9_digest_91 rfl (lv_at hl 3 rfl) ?_
            obtain ⟨r33, hc, hE⟩ := bd1_some hE
            refine xc_V1 (rest := [.long (31 * ((31 * x12) + ((r32 : Int32).toInt64)))]) (c_X9_deepOf hc) mw_X9_deepOf km_X9_193 hx hb hml hown hG hI xA_of (wG_atE (by omega) eY_0) rfl rfl ⟨Nat.le_of_ble_eq_true rfl, Nat.le_of_ble_eq_true rfl⟩ rfl hl.1 rfl (Nat.le_of_ble_eq_true rfl) dX9_digest_92 (fun H locs hI => ?_)
            refine lv_i2l (v := (r33 : Int32).toInt64) hx hb dX9_digest_95 rfl ?_
            refine lv_ladd hx hb dX9_digest_96 ?_
            refine lv_lstore_n (lv' := [(1, .long ((31 * ((31 * x12) + ((r32 : Int32).toInt64))) + ((r33 : Int32).toInt64))), (4, .int r30), (0, .ref (A 0)), (3, .int x13)]) hx hb dX9_digest_97 rfl hl (by decide) rfl (fun ls hl => ?_)
            refine lv_iconst (v := 0) hx hb dX9_digest_98 (by decide) ?_
            refine lv_istore (lv' := [(5, .int 0), (1, .long ((31 * ((31 * x12) + ((r32 : Int32).toInt64))) + ((r33 : Int32).toInt64))), (4, .int r30), (0, .ref (A 0)), (3, .int x13)]) hx hb dX9_digest_99 hl (by decide) rfl (fun ls hl => ?_)
            obtain ⟨x36, hZ, hE⟩ := bd1_some hE
            have hX101_36 : ∀ (H : Heap) (locs : List Loc) (ls : Array Slot), xI D (va_A (wY A cI u) s.heap.size) s.heap (wY A cI mu31) H locs → lv_has ls 7 [(0, .ref (A 0)), (1, .long x36), (3, .int x13)] → W p l e (rmOf 5 116) s m ([.ref (A 0)] : List Value).toArray below meth c H locs 0 0 (xQ D (tyL cI cZ cD) below ([.ref (A 0)] : List Value).toArray s (wY A cI u) (some (.long r)) (wY A cI u1)) (F0 m 166 ls []) := by
              intro H locs ls hI hl
              clear hZ
              refine lv_iinc (v := x13 + 1) (lv' := [(3, .int (x13 + 1)), (0, .ref (A 0)), (1, .long x36)]) hx hb dX9_digest_166 hl (k := 2) rfl rfl (by decide) rfl (fun ls hl => ?_)
              refine lv_goto (tgt := 62) hx hb dX9_digest_169 (by decide) ?_
              exact ih62 _ _ _ _ _ _ hE hI (lv_sub hl [1, 2, 0] rfl)
            replace hE := hZ
            clear hZ
            have hL101 : ∀ (n101 : Nat) (x34 : Int64) (x35 : Int32) (H : Heap) (locs : List Loc) (ls : Array Slot), X9_digest_L101 x13 r30 mu31 n101 x34 x35 = some x36 → xI D (va_A (wY A cI u) s.heap.size) s.heap (wY A cI mu31) H locs → lv_has ls 7 [(0, .ref (A 0)), (1, .long x34), (3, .int x13), (4, .int r30), (5, .int x35)] → W p l e (rmOf 5 116) s m ([.ref (A 0)] : List Value).toArray below meth c H locs 0 0 (xQ D (tyL cI cZ cD) below ([.ref (A 0)] : List Value).toArray s (wY A cI u) (some (.long r)) (wY A cI u1)) (F0 m 101 ls []) := by
              intro n101
              induction n101 with
              | zero =>
                intro x34 x35 H locs ls hE
                exact absurd hE (by simp [X9_digest_L101])
              | succ n101 ih101 =>
                intro x34 x35 H locs ls hE hI hl
                rw [X9_digest_L101] at hE
                refine lv_iload hx hb dX9_digest_101 (lv_at hl 4 rfl) ?_
                refine lv_iload hx hb dX9_digest_103 (lv_at hl 3 rfl) ?_
                refine lv_icmp_ge (tgt := 166) hx hb dX9_digest_105 (by decide) (fun c105 => ?_) (fun c105 => ?_)
                · rw [if_pos c105] at hE
                  obtain rfl := sm1 hE
                  exact hX101_36 _ _ _ hI (lv_sub hl [0, 1, 2] rfl)
                · rw [if_neg c105] at hE
                  refine lv_ldc2 (v := 31) hx hb hown (hG.2 _ kc_X9_252 _) dX9_digest_108 ?_
                  refine lv_lload_n hx hb dX9_digest_111 rfl (lv_at hl 1 rfl) ?_
                  refine lv_lmul hx hb dX9_digest_112 ?_
                  refine lv_aload_n hx hb dX9_digest_113 rfl (lv_at hl 0 rfl) ?_
                  refine xg_get (C := RX9) (T := TX9) (M := 22) hx hb hown hG hI (by omega) eY_0 rfl inX9 14 (by decide) kf_X9_40 rfl dX9_digest_114 ?_
                  refine lv_iload hx hb dX9_digest_117 (lv_at hl 4 rfl) ?_
                  obtain ⟨v38, hv, hE⟩ := bd1_some hE
                  refine xg_iald 0 hx hb hG hI (by omega) eY_11 rfl hv dX9_digest_119 ?_
                  refine lv_i2l (v := (v38 : Int32).toInt64) hx hb dX9_digest_120 rfl ?_
                  refine lv_ladd hx hb dX9_digest_121 ?_
                  refine lv_lstore_n (lv' := [(1, .long ((31 * x34) + ((v38 : Int32).toInt64))), (0, .ref (A 0)), (3, .int x13), (4, .int r30), (5, .int x35)]) hx hb dX9_digest_122 rfl hl (by decide) rfl (fun ls hl => ?_)
                  refine lv_iconst (v := 0) hx hb dX9_digest_123 (by decide) ?_
                  refine lv_istore (lv' := [(6, .int 0), (1, .long ((31 * x34) + ((v38 : Int32).toInt64))), (0, .ref (A 0)), (3, .int x13), (4, .int r30), (5, .int x35)]) hx hb dX9_digest_124 hl (by decide) rfl (fun ls hl => ?_)
                  obtain ⟨x41, hZ, hE⟩ := bd1_some hE
                  have hX126_41 : ∀ (H : Heap) (locs : List Loc) (ls : Array Slot), xI D (va_A (wY A cI u) s.heap.size) s.heap (wY A cI mu31) H locs → lv_has ls 7 [(0, .ref (A 0)), (1, .long x41), (3, .int x13), (4, .int r30), (5, .int x35)] → W p l e (rmOf 5 116) s m ([.ref (A 0)] : List Value).toArray below meth c H locs 0 0 (xQ D (tyL cI cZ cD) below ([.ref (A 0)] : List Value).toArray s (wY A cI u) (some (.long r)) (wY A cI u1)) (F0 m 160 ls []) := by
                    intro H locs ls hI hl
                    clear hZ
                    refine lv_iinc (v := x35 + 1) (lv' := [(5, .int (x35 + 1)), (0, .ref (A 0)), (1, .long x41), (3, .int x13), (4, .int r30)]) hx hb dX9_digest_160 hl (k := 4) rfl rfl (by decide) rfl (fun ls hl => ?_)
                    refine lv_goto (tgt := 101) hx hb dX9_digest_163 (by decide) ?_
                    exact ih101 _ _ _ _ _ hE hI (lv_sub hl [1, 2, 3, 4, 0] rfl)
                  replace hE := hZ
                  clear hZ
                  have hL126 : ∀ (n126 : Nat) (x39 : Int64) (x40 : Int32) (H : Heap) (locs : List Loc) (ls : Array Slot), X9_digest_L126 x13 mu31 x35 n126 x39 x40 = some x41 → xI D (va_A (wY A cI u) s.heap.size) s.heap (wY A cI mu31) H locs → lv_has ls 7 [(0, .ref (A 0)), (1, .long x39), (3, .int x13), (4, .int r30), (5, .int x35), (6, .int x40)] → W p l e (rmOf 5 116) s m ([.ref (A 0)] : List Value).toArray below meth c H locs 0 0 (xQ D (tyL cI cZ cD) below ([.ref (A 0)] : List Value).toArray s (wY A cI u) (some (.long r)) (wY A cI u1)) (F0 m 126 ls []) := by
                    intro n126
                    induction n126 with
                    | zero =>
                      intro x39 x40 H locs ls hE
                      exact absurd hE (by simp [X9_digest_L126])
                    | succ n126 ih126 =>
                      intro x39 x40 H locs ls hE hI hl
                      rw [X9_digest_L126] at hE
                      refine lv_iload hx hb dX9_digest_126 (lv_at hl 5 rfl) ?_
                      refine lv_iconst (v := 4) hx hb dX9_digest_128 (by decide) ?_
                      refine lv_icmp_ge (tgt := 160) hx hb dX9_digest_129 (by decide) (fun c129 => ?_) (fun c129 => ?_)
                      · rw [if_pos c129] at hE
                        obtain rfl := sm1 hE
                        exact hX126_41 _ _ _ hI (lv_sub hl [0, 1, 2, 3, 4] rfl)
                      · rw [if_neg c129] at hE
                        refine lv_ldc2 (v := 31) hx hb hown (hG.2 _ kc_X9_252 _) dX9_digest_132 ?_
                        refine lv_lload_n hx hb dX9_digest_135 rfl (lv_at hl 1 rfl) ?_
                        refine lv_lmul hx hb dX9_digest_136 ?_
                        refine lv_aload_n hx hb dX9_digest_137 rfl (lv_at hl 0 rfl) ?_
                        refine lv_iload_n hx hb dX9_digest_138 rfl (lv_at hl 2 rfl) ?_
                        refine lv_aload_n hx hb dX9_digest_139 rfl (lv_at hl 0 rfl) ?_
                        refine xg_get (C := RX9) (T := TX9) (M := 22) hx hb hown hG hI (by omega) eY_0 rfl inX9 14 (by decide) kf_X9_40 rfl dX9_digest_140 ?_
                        refine lv_iload hx hb dX9_digest_143 (lv_at hl 4 rfl) ?_
                        obtain ⟨v43, hv, hE⟩ := bd1_some hE
                        refine xg_iald 0 hx hb hG hI (by omega) eY_11 rfl hv dX9_digest_145 ?_
                        refine lv_iload hx hb dX9_digest_146 (lv_at hl 5 rfl) ?_
                        obtain ⟨r44, hc, hE⟩ := bd1_some hE
                        refine xc_V1 (rest := [.long (31 * x39)]) (c_X9_ofSection hc) mw_X9_ofSection km_X9_186 hx hb hml hown hG hI xA_of (wG_atE (by omega) eY_0) rfl rfl ⟨Nat.le_of_ble_eq_true rfl, Nat.le_of_ble_eq_true rfl⟩ rfl hl.1 rfl (Nat.le_of_ble_eq_true rfl) dX9_digest_148 (fun H locs hI => ?_)
                        refine lv_i2l (v := (r44 : Int32).toInt64) hx hb dX9_digest_151 rfl ?_
                        refine lv_ladd hx hb dX9_digest_152 ?_
                        refine lv_lstore_n (lv' := [(1, .long ((31 * x39) + ((r44 : Int32).toInt64))), (0, .ref (A 0)), (3, .int x13), (4, .int r30), (5, .int x35), (6, .int x40)]) hx hb dX9_digest_153 rfl hl (by decide) rfl (fun ls hl => ?_)
                        refine lv_iinc (v := x40 + 1) (lv' := [(6, .int (x40 + 1)), (1, .long ((31 * x39) + ((r44 : Int32).toInt64))), (0, .ref (A 0)), (3, .int x13), (4, .int r30), (5, .int x35)]) hx hb dX9_digest_154 hl (k := 5) rfl rfl (by decide) rfl (fun ls hl => ?_)
                        refine lv_goto (tgt := 126) hx hb dX9_digest_157 (by decide) ?_
                        exact ih126 _ _ _ _ _ hE hI (lv_sub hl [2, 1, 3, 4, 5, 0] rfl)
                  exact hL126 _ _ _ _ _ _ hE hI (lv_sub hl [2, 1, 3, 4, 5, 0] rfl)
            exact hL101 _ _ _ _ _ _ hE hI (lv_sub hl [3, 1, 4, 2, 0] rfl)
      exact hL62 _ _ _ _ _ _ _ hE hI (lv_sub hl [1, 2, 0] rfl)
    replace hE := hZ
    clear hZ
    have hL32 : ∀ (n32 : Nat) (x5 : Int64) (x6 : Int32) (mu7 : Mem) (H : Heap) (locs : List Loc) (ls : Array Slot), X9_digest_L32 n32 x5 x6 mu7 = some (x8, mu9) → xI D (va_A (wY A cI u) s.heap.size) s.heap (wY A cI mu7) H locs → lv_has ls 7 [(0, .ref (A 0)), (1, .long x5), (3, .int x6)] → W p l e (rmOf 5 116) s m ([.ref (A 0)] : List Value).toArray below meth c H locs 0 0 (xQ D (tyL cI cZ cD) below ([.ref (A 0)] : List Value).toArray s (wY A cI u) (some (.long r)) (wY A cI u1)) (F0 m 32 ls []) := by
      intro n32
      induction n32 with
      | zero =>
        intro x5 x6 mu7 H locs ls hE
        exact absurd hE (by simp [X9_digest_L32])
      | succ n32 ih32 =>
        intro x5 x6 mu7 H locs ls hE hI hl
        rw [X9_digest_L32] at hE
        refine lv_iload_n hx hb dX9_digest_32 rfl (lv_at hl 2 rfl) ?_
        refine lv_iconst (v := 4) hx hb dX9_digest_33 (by decide) ?_
        refine lv_icmp_ge (tgt := 56) hx hb dX9_digest_34 (by decide) (fun c34 => ?_) (fun c34 => ?_)
        · rw [if_pos c34] at hE
          obtain ⟨rfl, rfl⟩ := sm2 hE
          exact hX32_9 _ _ _ hI (lv_sub hl [0, 1] rfl)
        · rw [if_neg c34] at hE
          refine lv_ldc2 (v := 31) hx hb hown (hG.2 _ kc_X9_252 _) dX9_digest_37 ?_
          refine lv_lload_n hx hb dX9_digest_40 rfl (lv_at hl 1 rfl) ?_
          refine lv_lmul hx hb dX9_digest_41 ?_
          refine lv_aload_n hx hb dX9_digest_42 rfl (lv_at hl 0 rfl) ?_
          refine lv_iload_n hx hb dX9_digest_43 rfl (lv_at hl 2 rfl) ?_
          obtain ⟨r45, mu46, hc, hE⟩ := bd2_some hE
          refine xc_V1 (rest := [.long (31 * x5)]) (c_X9_toldOf hc) mw_X9_toldOf km_X9_214 hx hb hml hown hG hI xA_of (wG_atE (by omega) eY_0) rfl rfl ⟨Nat.le_of_ble_eq_true rfl, Nat.le_of_ble_eq_true rfl⟩ rfl hl.1 rfl (Nat.le_of_ble_eq_true rfl) dX9_digest_44 (fun H locs hI => ?_)
          refine lv_i2l (v := (r45 : Int32).toInt64) hx hb dX9_digest_47 rfl ?_
          refine lv_ladd hx hb dX9_digest_48 ?_
          refine lv_lstore_n (lv' := [(1, .long ((31 * x5) + ((r45 : Int32).toInt64))), (0, .ref (A 0)), (3, .int x6)]) hx hb dX9_digest_49 rfl hl (by decide) rfl (fun ls hl => ?_)
          refine lv_iinc (v := x6 + 1) (lv' := [(3, .int (x6 + 1)), (1, .long ((31 * x5) + ((r45 : Int32).toInt64))), (0, .ref (A 0))]) hx hb dX9_digest_50 hl (k := 2) rfl rfl (by decide) rfl (fun ls hl => ?_)
          refine lv_goto (tgt := 32) hx hb dX9_digest_53 (by decide) ?_
          exact ih32 _ _ _ _ _ _ hE hI (lv_sub hl [2, 1, 0] rfl)
    exact hL32 _ _ _ _ _ _ _ hE hI (lv_sub hl [1, 2, 0] rfl)
  replace hE := hZ
  clear hZ
  have hL6 : ∀ (n6 : Nat) (x1 : Int64) (x2 : Int32) (H : Heap) (locs : List Loc) (ls : Array Slot), X9_digest_L6 u n6 x1 x2 = some x3 → xI D (va_A (wY A cI u) s.heap.size) s.heap (wY A cI u) H locs → lv_has ls 7 [(0, .ref (A 0)), (1, .long x1), (3, .int x2)] → W p l e (rmOf 5 116) s m ([.ref (A 0)] : List Value).toArray below meth c H locs 0 0 (xQ D (tyL cI cZ cD) below ([.ref (A 0)] : List Value).toArray s (wY A cI u) (some (.long r)) (wY A cI u1)) (F0 m 6 ls []) := by
    intro n6
    induction n6 with
    | zero =>
      intro x1 x2 H locs ls hE
      exact absurd hE (by simp [X9_digest_L6])
    | succ n6 ih6 =>
      intro x1 x2 H locs ls hE hI hl
      rw [X9_digest_L6] at hE
      refine lv_iload_n hx hb dX9_digest_6 rfl (lv_at hl 2 rfl) ?_
      refine lv_iconst (v := 5) hx hb dX9_digest_7 (by decide) ?_
      refine lv_icmp_ge (tgt := 30) hx hb dX9_digest_8 (by decide) (fun c8 => ?_) (fun c8 => ?_)
      · rw [if_pos c8] at hE
        obtain rfl := sm1 hE
        exact hX6_3 _ _ _ hI (lv_sub hl [0, 1] rfl)
      · rw [if_neg c8] at hE
        refine lv_ldc2 (v := 31) hx hb hown (hG.2 _ kc_X9_252 _) dX9_digest_11 ?_
        refine lv_lload_n hx hb dX9_digest_14 rfl (lv_at hl 1 rfl) ?_
        refine lv_lmul hx hb dX9_digest_15 ?_
        refine lv_aload_n hx hb dX9_digest_16 rfl (lv_at hl 0 rfl) ?_
        refine lv_iload_n hx hb dX9_digest_17 rfl (lv_at hl 2 rfl) ?_
        obtain ⟨r47, hc, hE⟩ := bd1_some hE
        refine xc_V1 (rest := [.long (31 * x1)]) (c_X9_refusedOf hc) mw_X9_refusedOf km_X9_247 hx hb hml hown hG hI xA_of (wG_atE (by omega) eY_0) rfl rfl ⟨Nat.le_of_ble_eq_true rfl, Nat.le_of_ble_eq_true rfl⟩ rfl hl.1 rfl (Nat.le_of_ble_eq_true rfl) dX9_digest_18 (fun H locs hI => ?_)
        refine lv_i2l (v := (r47 : Int32).toInt64) hx hb dX9_digest_21 rfl ?_
        refine lv_ladd hx hb dX9_digest_22 ?_
        refine lv_lstore_n (lv' := [(1, .long ((31 * x1) + ((r47 : Int32).toInt64))), (0, .ref (A 0)), (3, .int x2)]) hx hb dX9_digest_23 rfl hl (by decide) rfl (fun ls hl => ?_)
        refine lv_iinc (v := x2 + 1) (lv' := [(3, .int (x2 + 1)), (1, .long ((31 * x1) + ((r47 : Int32).toInt64))), (0, .ref (A 0))]) hx hb dX9_digest_24 hl (k := 2) rfl rfl (by decide) rfl (fun ls hl => ?_)
        refine lv_goto (tgt := 6) hx hb dX9_digest_27 (by decide) ?_
        exact ih6 _ _ _ _ _ hE hI (lv_sub hl [2, 1, 0] rfl)
  exact hL6 _ _ _ _ _ _ hE hI (lv_sub hl [2, 1, 0] rfl)
