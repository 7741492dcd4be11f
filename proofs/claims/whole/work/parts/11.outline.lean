def X4_copyFrom (u : Mem) (p0 : Nat) (p1 : Nat) : Option (Mem) :=
  (cpO u p0 p1).bind fun mu1 => some mu1
set_option maxHeartbeats 4000000 in
set_option maxRecDepth 100000 in
theorem c_X4_copyFrom {l : Launch} {D : va_G} {A : Nat → Nat} {cI cZ cD : ClassId} {u u1 : Mem} {p0 : Nat} {p1 : Nat} (hp0 : p0 < 25) (hp1 : p1 < 25) (hE : X4_copyFrom u p0 p1 = some (u1)) : Ct l yX4_copyFrom cX4_copyFrom 2 none (rmOf 1 18) D (tyL cI cZ cD) [.ref (A p0), .ref (A p1)] (wX A cI cZ cD u) none (wX A cI cZ cD u1) := by
  refine Ct.ofW (by decide +kernel) (fun p e s m below meth c hC hI => ?_)
  obtain ⟨hx, hb, hml, hown, hr, hlk, hG⟩ := hC
  have hown : s.vm.findClass RX4 = some m.cls := hown
  have hl := lv_entry ([.ref (A p0), .ref (A p1)] : List Value) (n := 2) (Nat.le_of_ble_eq_true rfl)
  rw [lg_entry_eq]
  generalize (lg_sl ([.ref (A p0), .ref (A p1)] : List Value) ++ List.replicate (2 - (lg_sl ([.ref (A p0), .ref (A p1)] : List Value)).length) Slot.unset).toArray = ls at hl ⊢
  have hl : lv_has ls 2 [(0, .ref (A p0)), (1, .ref (A p1))] := hl
  unfold X4_copyFrom at hE
  refine lv_aload_n hx hb dX4_copyFrom_0 rfl (lv_at hl 1 rfl) ?_
  refine xg_get (C := RX4) (T := TX4) (M := 1) hx hb hown hG hI (by omega) (eX_O (j := p1) (by omega)) rfl inX4 0 (by decide) kf_X4_9 rfl dX4_copyFrom_1 ?_
  refine lv_iconst (v := 0) hx hb dX4_copyFrom_4 (by decide) ?_
  refine lv_aload_n hx hb dX4_copyFrom_5 rfl (lv_at hl 0 rfl) ?_
  refine xg_get (C := RX4) (T := TX4) (M := 1) hx hb hown hG hI (by omega) (eX_O (j := p0) (by omega)) rfl inX4 0 (by decide) kf_X4_9 rfl dX4_copyFrom_6 ?_
  refine lv_iconst (v := 0) hx hb dX4_copyFrom_9 (by decide) ?_
  refine lv_bipush (v := 80) hx hb dX4_copyFrom_10 (by decide) ?_
  obtain ⟨mu1, hu, hE⟩ := bd1_some hE
  refine xg_copy (n := 80) 0 hx hb hml hl.1 hown km_X4_22 k_acn k_acs ki_J10 hG hI (by omega) (by omega) (eX_C (j := p1) (by omega)) (eX_C (j := p0) (by omega)) rfl (by decide) (by decide) (Option.some.inj hu) (Nat.le_of_ble_eq_true rfl) (Nat.le_of_ble_eq_true rfl) dX4_copyFrom_12 (fun H locs hI => ?_)
  obtain rfl := sm1 hE
  exact xr_v hx hb hr hlk hG hI dX4_copyFrom_15
def X4_holds (f : (Nat → Int32)) (p1 : Int32) : Option (Bool) :=
  (if p1 < 0 then some false else (if 16 ≤ p1 then some false else (rd 80 f (64 + p1)).bind fun v1 => (if v1 = 1 then some true else some false)))
set_option maxHeartbeats 4000000 in
set_option maxRecDepth 100000 in
theorem c_X4_holds {l : Launch} {D : va_G} {cI cZ cD : ClassId} {ws : va_W} {k0 k1 o a : Nat} {f : Nat → Int32} (hO : OK ws k0 k1 o a) {p1 : Int32} {r : Bool}  (hE : X4_holds f p1 = some (r)) : Ct l yX4_holds cX4_holds 2 (some .boolean) (rmOf 0 0) D (tyL cI cZ cD) [.ref o, .int p1] (wO ws k1 cI a f) (some (.int (b2i r))) (wO ws k1 cI a f) := by
  refine Ct.ofW (by decide +kernel) (fun p e s m below meth c hC hI => ?_)
  obtain ⟨hx, hb, hml, hown, hr, hlk, hG⟩ := hC
  have hown : s.vm.findClass RX4 = some m.cls := hown
  have hl := lv_entry ([.ref o, .int p1] : List Value) (n := 2) (Nat.le_of_ble_eq_true rfl)
  rw [lg_entry_eq]
  generalize (lg_sl ([.ref o, .int p1] : List Value) ++ List.replicate (2 - (lg_sl ([.ref o, .int p1] : List Value)).length) Slot.unset).toArray = ls at hl ⊢
  have hl : lv_has ls 2 [(0, .ref o), (1, .int p1)] := hl
  unfold X4_holds at hE
  refine lv_iload_n hx hb dX4_holds_0 rfl (lv_at hl 1 rfl) ?_
  refine lv_if_lt (tgt := 27) hx hb dX4_holds_1 (by decide) (fun c1 => ?_) (fun c1 => ?_)
  · rw [if_pos c1] at hE
    refine lv_iconst (v := 0) hx hb dX4_holds_27 (by decide) ?_
    obtain rfl := sm1 hE
    exact xr_z rfl hx hb hr hlk hG hI dX4_holds_28
  · rw [if_neg c1] at hE
    refine lv_iload_n hx hb dX4_holds_4 rfl (lv_at hl 1 rfl) ?_
    refine lv_bipush (v := 16) hx hb dX4_holds_5 (by decide) ?_
    refine lv_icmp_ge (tgt := 27) hx hb dX4_holds_7 (by decide) (fun c7 => ?_) (fun c7 => ?_)
    · rw [if_pos c7] at hE
      refine lv_iconst (v := 0) hx hb dX4_holds_27 (by decide) ?_
      obtain rfl := sm1 hE
      exact xr_z rfl hx hb hr hlk hG hI dX4_holds_28
    · rw [if_neg c7] at hE
      refine lv_aload_n hx hb dX4_holds_10 rfl (lv_at hl 0 rfl) ?_
      refine xo_get hx hb hown hG hI hO kf_X4_9 dX4_holds_11 ?_
      refine lv_bipush (v := 64) hx hb dX4_holds_14 (by decide) ?_
      refine lv_iload_n hx hb dX4_holds_16 rfl (lv_at hl 1 rfl) ?_
      refine lv_iadd hx hb dX4_holds_17 ?_
      obtain ⟨v1, hv, hE⟩ := bd1_some hE
      refine xo_iald 0 hx hb hG hI hO rfl hv dX4_holds_18 ?_
      refine lv_iconst (v := 1) hx hb dX4_holds_19 (by decide) ?_
      refine lv_icmp_ne (tgt := 27) hx hb dX4_holds_20 (by decide) (fun c20 => ?_) (fun c20 => ?_)
      · rw [if_neg c20] at hE
        refine lv_iconst (v := 0) hx hb dX4_holds_27 (by decide) ?_
        obtain rfl := sm1 hE
        exact xr_z rfl hx hb hr hlk hG hI dX4_holds_28
      · rw [if_pos c20] at hE
        refine lv_iconst (v := 1) hx hb dX4_holds_23 (by decide) ?_
        refine lv_goto (tgt := 28) hx hb dX4_holds_24 (by decide) ?_
        obtain rfl := sm1 hE
        exact xr_z rfl hx hb hr hlk hG hI dX4_holds_28
def X4_isChild (f : (Nat → Int32)) (p1 : Int32) (p2 : Int32) : Option (Bool) :=
  (if p1 ≤ 0 then some false else (if 16 ≤ p1 then some false else (rd 80 f (64 + p1)).bind fun v1 => (if v1 = 1 then (rd 80 f (0 + p1)).bind fun v2 => (if v2 = p2 then some true else some false) else some false)))
set_option maxHeartbeats 4000000 in
set_option maxRecDepth 100000 in
theorem c_X4_isChild {l : Launch} {D : va_G} {cI cZ cD : ClassId} {ws : va_W} {k0 k1 o a : Nat} {f : Nat → Int32} (hO : OK ws k0 k1 o a) {p1 : Int32} {p2 : Int32} {r : Bool}  (hE : X4_isChild f p1 p2 = some (r)) : Ct l yX4_isChild cX4_isChild 3 (some .boolean) (rmOf 0 0) D (tyL cI cZ cD) [.ref o, .int p1, .int p2] (wO ws k1 cI a f) (some (.int (b2i r))) (wO ws k1 cI a f) := by
  refine Ct.ofW (by decide +kernel) (fun p e s m below meth c hC hI => ?_)
  obtain ⟨hx, hb, hml, hown, hr, hlk, hG⟩ := hC
  have hown : s.vm.findClass RX4 = some m.cls := hown
  have hl := lv_entry ([.ref o, .int p1, .int p2] : List Value) (n := 3) (Nat.le_of_ble_eq_true rfl)
  rw [lg_entry_eq]
  generalize (lg_sl ([.ref o, .int p1, .int p2] : List Value) ++ List.replicate (3 - (lg_sl ([.ref o, .int p1, .int p2] : List Value)).length) Slot.unset).toArray = ls at hl ⊢
  have hl : lv_has ls 3 [(0, .ref o), (1, .int p1), (2, .int p2)] := hl
  unfold X4_isChild at hE
  refine lv_iload_n hx hb dX4_isChild_0 rfl (lv_at hl 1 rfl) ?_
  refine lv_if_le (tgt := 39) hx hb dX4_isChild_1 (by decide) (fun c1 => ?_) (fun c1 => ?_)
  · rw [if_pos c1] at hE
    refine lv_iconst (v := 0) hx hb dX4_isChild_39 (by decide) ?_
    obtain rfl := sm1 hE
    exact xr_z rfl hx hb hr hlk hG hI dX4_isChild_40
  · rw [if_neg c1] at hE
    refine lv_iload_n hx hb dX4_isChild_4 rfl (lv_at hl 1 rfl) ?_
    refine lv_bipush (v := 16) hx hb dX4_isChild_5 (by decide) ?_
    refine lv_icmp_ge (tgt := 39) hx hb dX4_isChild_7 (by decide) (fun c7 => ?_) (fun c7 => ?_)
    · rw [if_pos c7] at hE
      refine lv_iconst (v := 0) hx hb dX4_isChild_39 (by decide) ?_
      obtain rfl := sm1 hE
      exact xr_z rfl hx hb hr hlk hG hI dX4_isChild_40
    · rw [if_neg c7] at hE
      refine lv_aload_n hx hb dX4_isChild_10 rfl (lv_at hl 0 rfl) ?_
      refine xo_get hx hb hown hG hI hO kf_X4_9 dX4_isChild_11 ?_
      refine lv_bipush (v := 64) hx hb dX4_isChild_14 (by decide) ?_
      refine lv_iload_n hx hb dX4_isChild_16 rfl (lv_at hl 1 rfl) ?_
      refine lv_iadd hx hb dX4_isChild_17 ?_
      obtain ⟨v1, hv, hE⟩ := bd1_some hE
      refine xo_iald 0 hx hb hG hI hO rfl hv dX4_isChild_18 ?_
      refine lv_iconst (v := 1) hx hb dX4_isChild_19 (by decide) ?_
      refine lv_icmp_ne (tgt := 39) hx hb dX4_isChild_20 (by decide) (fun c20 => ?_) (fun c20 => ?_)
      · rw [if_neg c20] at hE
        refine lv_iconst (v := 0) hx hb dX4_isChild_39 (by decide) ?_
        obtain rfl := sm1 hE
        exact xr_z rfl hx hb hr hlk hG hI dX4_isChild_40
      · rw [if_pos c20] at hE
        refine lv_aload_n hx hb dX4_isChild_23 rfl (lv_at hl 0 rfl) ?_
        refine xo_get hx hb hown hG hI hO kf_X4_9 dX4_isChild_24 ?_
        refine lv_iconst (v := 0) hx hb dX4_isChild_27 (by decide) ?_
        refine lv_iload_n hx hb dX4_isChild_28 rfl (lv_at hl 1 rfl) ?_
        refine lv_iadd hx hb dX4_isChild_29 ?_
        obtain ⟨v2, hv, hE⟩ := bd1_some hE
        refine xo_iald 0 hx hb hG hI hO rfl hv dX4_isChild_30 ?_
        refine lv_iload_n hx hb dX4_isChild_31 rfl (lv_at hl 2 rfl) ?_
        refine lv_icmp_ne (tgt := 39) hx hb dX4_isChild_32 (by decide) (fun c32 => ?_) (fun c32 => ?_)
        · rw [if_neg c32] at hE
          refine lv_iconst (v := 0) hx hb dX4_isChild_39 (by decide) ?_
          obtain rfl := sm1 hE
          exact xr_z rfl hx hb hr hlk hG hI dX4_isChild_40
        · rw [if_pos c32] at hE
          refine lv_iconst (v := 1) hx hb dX4_isChild_35 (by decide) ?_
          refine lv_goto (tgt := 40) hx hb dX4_isChild_36 (by decide) ?_
          obtain rfl := sm1 hE
          exact xr_z rfl hx hb hr hlk hG hI dX4_isChild_40
def X4_childCount_L4 (p1 : Int32) (f : (Nat → Int32)) : Nat → Int32 → Int32 → Option (Int32)
  | 0, _, _ => none
  | n4 + 1, x1, x2 =>
    (if 16 ≤ x2 then some x1 else (X4_isChild f x2 p1 : Option Bool).bind fun (r5 : Bool) => ((if (b2i r5) = 0 then some 0 else some 1) : Option Int32).bind fun (x6 : Int32) => X4_childCount_L4 p1 f n4 (x1 + x6) (x2 + 1))
def X4_childCount (f : (Nat → Int32)) (p1 : Int32) : Option (Int32) :=
  (X4_childCount_L4 p1 f fu 0 0 : Option Int32).bind fun (x3 : Int32) => some x3
set_option maxHeartbeats 4000000 in
set_option maxRecDepth 100000 in
theorem c_X4_childCount {l : Launch} {D : va_G} {cI cZ cD : ClassId} {ws : va_W} {k0 k1 o a : Nat} {f : Nat → Int32} (hO : OK ws k0 k1 o a) {p1 : Int32} {r : Int32}  (hE : X4_childCount f p1 = some (r)) : Ct l yX4_childCount cX4_childCount 4 (some .int) (rmOf 1 22) D (tyL cI cZ cD) [.ref o, .int p1] (wO ws k1 cI a f) (some (.int r)) (wO ws k1 cI a f) := by
  refine Ct.ofW (by decide +kernel) (fun p e s m below meth c hC hI => ?_)
  obtain ⟨hx, hb, hml, hown, hr, hlk, hG⟩ := hC
  have hown : s.vm.findClass RX4 = some m.cls := hown
  have hl := lv_entry ([.ref o, .int p1] : List Value) (n := 4) (Nat.le_of_ble_eq_true rfl)
  rw [lg_entry_eq]
  generalize (lg_sl ([.ref o, .int p1] : List Value) ++ List.replicate (4 - (lg_sl ([.ref o, .int p1] : List Value)).length) Slot.unset).toArray = ls at hl ⊢
  have hl : lv_has ls 4 [(0, .ref o), (1, .int p1)] := hl
  unfold X4_childCount at hE
  refine lv_iconst (v := 0) hx hb dX4_childCount_0 (by decide) ?_
  refine lv_istore_n (lv' := [(2, .int 0), (0, .ref o), (1, .int p1)]) hx hb dX4_childCount_1 rfl hl (by decide) rfl (fun ls hl => ?_)
  refine lv_iconst (v := 0) hx hb dX4_childCount_2 (by decide) ?_
  refine lv_istore_n (lv' := [(3, .int 0), (2, .int 0), (0, .ref o), (1, .int p1)]) hx hb dX4_childCount_3 rfl hl (by decide) rfl (fun ls hl => ?_)
  obtain ⟨x3, hZ, hE⟩ := bd1_some hE
  have hX4_3 : ∀ (H : Heap) (locs : List Loc) (ls : Array Slot), xI D (va_A (wO ws k1 cI a f) s.heap.size) s.heap (wO ws k1 cI a f) H locs → lv_has ls 4 [(2, .int x3)] → W p l e (rmOf 1 22) s m ([.ref o, .int p1] : List Value).toArray below meth c H locs 0 0 (xQ D (tyL cI cZ cD) below ([.ref o, .int p1] : List Value).toArray s (wO ws k1 cI a f) (some (.int r)) (wO ws k1 cI a f)) (F0 m 33 ls []) := by
    intro H locs ls hI hl
    clear hZ
    refine lv_iload_n hx hb dX4_childCount_33 rfl (lv_at hl 0 rfl) ?_
    obtain rfl := sm1 hE
    exact xr_i hx hb hr hlk hG hI dX4_childCount_34
  replace hE := hZ
  clear hZ
  have hL4 : ∀ (n4 : Nat) (x1 : Int32) (x2 : Int32) (H : Heap) (locs : List Loc) (ls : Array Slot), X4_childCount_L4 p1 f n4 x1 x2 = some x3 → xI D (va_A (wO ws k1 cI a f) s.heap.size) s.heap (wO ws k1 cI a f) H locs → lv_has ls 4 [(0, .ref o), (1, .int p1), (2, .int x1), (3, .int x2)] → W p l e (rmOf 1 22) s m ([.ref o, .int p1] : List Value).toArray below meth c H locs 0 0 (xQ D (tyL cI cZ cD) below ([.ref o, .int p1] : List Value).toArray s (wO ws k1 cI a f) (some (.int r)) (wO ws k1 cI a f)) (F0 m 4 ls []) := by
    intro n4
    induction n4 with
    | zero =>
      intro x1 x2 H locs ls hE
      exact absurd hE (by simp [X4_childCount_L4])
    | succ n4 ih4 =>
      intro x1 x2 H locs ls hE hI hl
      rw [X4_childCount_L4] at hE
      refine lv_iload_n hx hb dX4_childCount_4 rfl (lv_at hl 3 rfl) ?_
      refine lv_bipush (v := 16) hx hb dX4_childCount_5 (by decide) ?_
      refine lv_icmp_ge (tgt := 33) hx hb dX4_childCount_7 (by decide) (fun c7 => ?_) (fun c7 => ?_)
      · rw [if_pos c7] at hE
        obtain rfl := sm1 hE
        exact hX4_3 _ _ _ hI (lv_sub hl [2] rfl)
      · rw [if_neg c7] at hE
        refine lv_iload_n hx hb dX4_childCount_10 rfl (lv_at hl 2 rfl) ?_
        refine lv_aload_n hx hb dX4_childCount_11 rfl (lv_at hl 0 rfl) ?_
        refine lv_iload_n hx hb dX4_childCount_12 rfl (lv_at hl 3 rfl) ?_
        refine lv_iload_n hx hb dX4_childCount_13 rfl (lv_at hl 1 rfl) ?_
        obtain ⟨r5, hc, hE⟩ := bd1_some hE
        refine xc_V1 (rest := [.int x1]) (c_X4_isChild hO hc) mw_X4_isChild km_X4_32 hx hb hml hown hG hI xA_of (wO_at0 hO) rfl rfl ⟨Nat.le_of_ble_eq_true rfl, Nat.le_of_ble_eq_true rfl⟩ rfl hl.1 rfl (Nat.le_of_ble_eq_true rfl) dX4_childCount_14 (fun H locs hI => ?_)
        obtain ⟨x6, hZ, hE⟩ := bd1_some hE
        have hJ25_6 : ∀ (H : Heap) (locs : List Loc) (ls : Array Slot), xI D (va_A (wO ws k1 cI a f) s.heap.size) s.heap (wO ws k1 cI a f) H locs → lv_has ls 4 [(0, .ref o), (1, .int p1), (3, .int x2)] → W p l e (rmOf 1 22) s m ([.ref o, .int p1] : List Value).toArray below meth c H locs 0 0 (xQ D (tyL cI cZ cD) below ([.ref o, .int p1] : List Value).toArray s (wO ws k1 cI a f) (some (.int r)) (wO ws k1 cI a f)) (F0 m 25 ls [.int x6, .int x1]) := by
          intro H locs ls hI hl
          clear hZ
          refine lv_iadd hx hb dX4_childCount_25 ?_
          refine lv_istore_n (lv' := [(2, .int (x1 + x6)), (0, .ref o), (1, .int p1), (3, .int x2)]) hx hb dX4_childCount_26 rfl hl (by decide) rfl (fun ls hl => ?_)
          refine lv_iinc (v := x2 + 1) (lv' := [(3, .int (x2 + 1)), (2, .int (x1 + x6)), (0, .ref o), (1, .int p1)]) hx hb dX4_childCount_27 hl (k := 3) rfl rfl (by decide) rfl (fun ls hl => ?_)
          refine lv_goto (tgt := 4) hx hb dX4_childCount_30 (by decide) ?_
          exact ih4 _ _ _ _ _ hE hI (lv_sub hl [2, 3, 1, 0] rfl)
        replace hE := hZ
        clear hZ
        refine lv_if_eq (tgt := 24) hx hb dX4_childCount_17 (by decide) (fun c17 => ?_) (fun c17 => ?_)
        · rw [if_pos c17] at hE
          refine lv_iconst (v := 0) hx hb dX4_childCount_24 (by decide) ?_
          obtain rfl := sm1 hE
          exact hJ25_6 _ _ _ hI (lv_sub hl [0, 1, 3] rfl)
        · rw [if_neg c17] at hE
          refine lv_iconst (v := 1) hx hb dX4_childCount_20 (by decide) ?_
          refine lv_goto (tgt := 25) hx hb dX4_childCount_21 (by decide) ?_
          obtain rfl := sm1 hE
          exact hJ25_6 _ _ _ hI (lv_sub hl [0, 1, 3] rfl)
  exact hL4 _ _ _ _ _ _ hE hI (lv_sub hl [2, 3, 1, 0] rfl)
def X4_trait (f : (Nat → Int32)) (p1 : Int32) (p2 : Int32) : Option (Int32) :=
  (if p1 < 0 then some (-1) else (if 16 ≤ p1 then some (-1) else (if p2 < 0 then some (-1) else (if 5 ≤ p2 then some (-1) else (rd 80 f (64 + p1)).bind fun v1 => (if v1 = 0 then some (-1) else (rd 80 f ((p2 * 16) + p1)).bind fun v2 => some v2)))))
set_option maxHeartbeats 4000000 in
set_option maxRecDepth 100000 in
theorem c_X4_trait {l : Launch} {D : va_G} {cI cZ cD : ClassId} {ws : va_W} {k0 k1 o a : Nat} {f : Nat → Int32} (hO : OK ws k0 k1 o a) {p1 : Int32} {p2 : Int32} {r : Int32}  (hE : X4_trait f p1 p2 = some (r)) : Ct l yX4_trait cX4_trait 3 (some .int) (rmOf 0 0) D (tyL cI cZ cD) [.ref o, .int p1, .int p2] (wO ws k1 cI a f) (some (.int r)) (wO ws k1 cI a f) := by
  refine Ct.ofW (by decide +kernel) (fun p e s m below meth c hC hI => ?_)
  obtain ⟨hx, hb, hml, hown, hr, hlk, hG⟩ := hC
  have hown : s.vm.findClass RX4 = some m.cls := hown
  have hl := lv_entry ([.ref o, .int p1, .int p2] : List Value) (n := 3) (Nat.le_of_ble_eq_true rfl)
  rw [lg_entry_eq]
  generalize (lg_sl ([.ref o, .int p1, .int p2] : List Value) ++ List.replicate (3 - (lg_sl ([.ref o, .int p1, .int p2] : List Value)).length) Slot.unset).toArray = ls at hl ⊢
  have hl : lv_has ls 3 [(0, .ref o), (1, .int p1), (2, .int p2)] := hl
  unfold X4_trait at hE
  refine lv_iload_n hx hb dX4_trait_0 rfl (lv_at hl 1 rfl) ?_
  refine lv_if_lt (tgt := 31) hx hb dX4_trait_1 (by decide) (fun c1 => ?_) (fun c1 => ?_)
  · rw [if_pos c1] at hE
    refine lv_iconst (v := (-1)) hx hb dX4_trait_31 (by decide) ?_
    obtain rfl := sm1 hE
    exact xr_i hx hb hr hlk hG hI dX4_trait_32
  · rw [if_neg c1] at hE
    refine lv_iload_n hx hb dX4_trait_4 rfl (lv_at hl 1 rfl) ?_
    refine lv_bipush (v := 16) hx hb dX4_trait_5 (by decide) ?_
    refine lv_icmp_ge (tgt := 31) hx hb dX4_trait_7 (by decide) (fun c7 => ?_) (fun c7 => ?_)
    · rw [if_pos c7] at hE
      refine lv_iconst (v := (-1)) hx hb dX4_trait_31 (by decide) ?_
      obtain rfl := sm1 hE
      exact xr_i hx hb hr hlk hG hI dX4_trait_32
    · rw [if_neg c7] at hE
      refine lv_iload_n hx hb dX4_trait_10 rfl (lv_at hl 2 rfl) ?_
      refine lv_if_lt (tgt := 31) hx hb dX4_trait_11 (by decide) (fun c11 => ?_) (fun c11 => ?_)
      · rw [if_pos c11] at hE
        refine lv_iconst (v := (-1)) hx hb dX4_trait_31 (by decide) ?_
        obtain rfl := sm1 hE
        exact xr_i hx hb hr hlk hG hI dX4_trait_32
      · rw [if_neg c11] at hE
        refine lv_iload_n hx hb dX4_trait_14 rfl (lv_at hl 2 rfl) ?_
        refine lv_iconst (v := 5) hx hb dX4_trait_15 (by decide) ?_
        refine lv_icmp_ge (tgt := 31) hx hb dX4_trait_16 (by decide) (fun c16 => ?_) (fun c16 => ?_)
        · rw [if_pos c16] at hE
          refine lv_iconst (v := (-1)) hx hb dX4_trait_31 (by decide) ?_
          obtain rfl := sm1 hE
          exact xr_i hx hb hr hlk hG hI dX4_trait_32
        · rw [if_neg c16] at hE
          refine lv_aload_n hx hb dX4_trait_19 rfl (lv_at hl 0 rfl) ?_
          refine xo_get hx hb hown hG hI hO kf_X4_9 dX4_trait_20 ?_
          refine lv_bipush (v := 64) hx hb dX4_trait_23 (by decide) ?_
          refine lv_iload_n hx hb dX4_trait_25 rfl (lv_at hl 1 rfl) ?_
          refine lv_iadd hx hb dX4_trait_26 ?_
          obtain ⟨v1, hv, hE⟩ := bd1_some hE
          refine xo_iald 0 hx hb hG hI hO rfl hv dX4_trait_27 ?_
          refine lv_if_ne (tgt := 33) hx hb dX4_trait_28 (by decide) (fun c28 => ?_) (fun c28 => ?_)
          · rw [if_neg c28] at hE
            refine lv_aload_n hx hb dX4_trait_33 rfl (lv_at hl 0 rfl) ?_
            refine xo_get hx hb hown hG hI hO kf_X4_9 dX4_trait_34 ?_
            refine lv_iload_n hx hb dX4_trait_37 rfl (lv_at hl 2 rfl) ?_
            refine lv_bipush (v := 16) hx hb dX4_trait_38 (by decide) ?_
            refine lv_imul hx hb dX4_trait_40 ?_
            refine lv_iload_n hx hb dX4_trait_41 rfl (lv_at hl 1 rfl) ?_
            refine lv_iadd hx hb dX4_trait_42 ?_
            obtain ⟨v2, hv, hE⟩ := bd1_some hE
            refine xo_iald 0 hx hb hG hI hO rfl hv dX4_trait_43 ?_
            obtain rfl := sm1 hE
            exact xr_i hx hb hr hlk hG hI dX4_trait_44
          · rw [if_pos c28] at hE
            refine lv_iconst (v := (-1)) hx hb dX4_trait_31 (by decide) ?_
            obtain rfl := sm1 hE
            exact xr_i hx hb hr hlk hG hI dX4_trait_32
def X4_put (f : (Nat → Int32)) (p1 : Int32) (p2 : Int32) (p3 : Int32) : Option ((Nat → Int32)) :=
  (if p1 < 0 then some f else (if 16 ≤ p1 then some f else (if p2 < 0 then some f else (if 5 ≤ p2 then some f else (wr 80 f ((p2 * 16) + p1) p3).bind fun fw1 => some fw1))))
set_option maxHeartbeats 4000000 in
set_option maxRecDepth 100000 in
theorem c_X4_put {l : Launch} {D : va_G} {cI cZ cD : ClassId} {ws : va_W} {k0 k1 o a : Nat} {f f1 : Nat → Int32} (hO : OK ws k0 k1 o a) {p1 : Int32} {p2 : Int32} {p3 : Int32}  (hE : X4_put f p1 p2 p3 = some (f1)) : Ct l yX4_put cX4_put 4 none (rmOf 0 0) D (tyL cI cZ cD) [.ref o, .int p1, .int p2, .int p3] (wO ws k1 cI a f) none (wO ws k1 cI a f1) := by
  refine Ct.ofW (by decide +kernel) (fun p e s m below meth c hC hI => ?_)
  obtain ⟨hx, hb, hml, hown, hr, hlk, hG⟩ := hC
  have hown : s.vm.findClass RX4 = some m.cls := hown
  have hl := lv_entry ([.ref o, .int p1, .int p2, .int p3] : List Value) (n := 4) (Nat.le_of_ble_eq_true rfl)
  rw [lg_entry_eq]
  generalize (lg_sl ([.ref o, .int p1, .int p2, .int p3] : List Value) ++ List.replicate (4 - (lg_sl ([.ref o, .int p1, .int p2, .int p3] : List Value)).length) Slot.unset).toArray = ls at hl ⊢
  have hl : lv_has ls 4 [(0, .ref o), (1, .int p1), (2, .int p2), (3, .int p3)] := hl
  unfold X4_put at hE
  refine lv_iload_n hx hb dX4_put_0 rfl (lv_at hl 1 rfl) ?_
  refine lv_if_lt (tgt := 31) hx hb dX4_put_1 (by decide) (fun c1 => ?_) (fun c1 => ?_)
  · rw [if_pos c1] at hE
    obtain rfl := sm1 hE
    exact xr_v hx hb hr hlk hG hI dX4_put_31
  · rw [if_neg c1] at hE
    refine lv_iload_n hx hb dX4_put_4 rfl (lv_at hl 1 rfl) ?_
    refine lv_bipush (v := 16) hx hb dX4_put_5 (by decide) ?_
    refine lv_icmp_ge (tgt := 31) hx hb dX4_put_7 (by decide) (fun c7 => ?_) (fun c7 => ?_)
    · rw [if_pos c7] at hE
      obtain rfl := sm1 hE
      exact xr_v hx hb hr hlk hG hI dX4_put_31
    · rw [if_neg c7] at hE
      refine lv_iload_n hx hb dX4_put_10 rfl (lv_at hl 2 rfl) ?_
      refine lv_if_lt (tgt := 31) hx hb dX4_put_11 (by decide) (fun c11 => ?_) (fun c11 => ?_)
      · rw [if_pos c11] at hE
        obtain rfl := sm1 hE
        exact xr_v hx hb hr hlk hG hI dX4_put_31
      · rw [if_neg c11] at hE
        refine lv_iload_n hx hb dX4_put_14 rfl (lv_at hl 2 rfl) ?_
        refine lv_iconst (v := 5) hx hb dX4_put_15 (by decide) ?_
        refine lv_icmp_ge (tgt := 31) hx hb dX4_put_16 (by decide) (fun c16 => ?_) (fun c16 => ?_)
        · rw [if_pos c16] at hE
          obtain rfl := sm1 hE
          exact xr_v hx hb hr hlk hG hI dX4_put_31
        · rw [if_neg c16] at hE
          refine lv_aload_n hx hb dX4_put_19 rfl (lv_at hl 0 rfl) ?_
          refine xo_get hx hb hown hG hI hO kf_X4_9 dX4_put_20 ?_
          refine lv_iload_n hx hb dX4_put_23 rfl (lv_at hl 2 rfl) ?_
          refine lv_bipush (v := 16) hx hb dX4_put_24 (by decide) ?_
          refine lv_imul hx hb dX4_put_26 ?_
          refine lv_iload_n hx hb dX4_put_27 rfl (lv_at hl 1 rfl) ?_
          refine lv_iadd hx hb dX4_put_28 ?_
          refine lv_iload_n hx hb dX4_put_29 rfl (lv_at hl 3 rfl) ?_
          obtain ⟨fw1, hv, hE⟩ := bd1_some hE
          refine xo_iast 0 hx hb hG hI hO rfl hv dX4_put_30 (fun H locs hI => ?_)
          obtain rfl := sm1 hE
          exact xr_v hx hb hr hlk hG hI dX4_put_31
def X4_shift_L3 (p1 : Int32) (p2 : Int32) (p3 : Int32) : Nat → Int32 → (Nat → Int32) → Option ((Nat → Int32))
  | 0, _, _ => none
  | n3 + 1, x1, mu2 =>
    (if 16 ≤ x1 then some mu2 else (X4_isChild mu2 x1 p1 : Option Bool).bind fun (r5 : Bool) => (if (b2i r5) = 0 then X4_shift_L3 p1 p2 p3 n3 (x1 + 1) mu2 else (X4_trait mu2 x1 1 : Option Int32).bind fun (r6 : Int32) => (if r6 < p2 then X4_shift_L3 p1 p2 p3 n3 (x1 + 1) mu2 else (X4_trait mu2 x1 1 : Option Int32).bind fun (r7 : Int32) => (X4_put mu2 x1 1 (r7 + p3) : Option (Nat → Int32)).bind fun (fw8 : (Nat → Int32)) => X4_shift_L3 p1 p2 p3 n3 (x1 + 1) fw8)))
def X4_shift (f : (Nat → Int32)) (p1 : Int32) (p2 : Int32) (p3 : Int32) : Option ((Nat → Int32)) :=
  (X4_shift_L3 p1 p2 p3 fu 0 f : Option (Nat → Int32)).bind fun (mu3 : (Nat → Int32)) => some mu3
set_option maxHeartbeats 4000000 in
set_option maxRecDepth 100000 in
theorem c_X4_shift {l : Launch} {D : va_G} {cI cZ cD : ClassId} {ws : va_W} {k0 k1 o a : Nat} {f f1 : Nat → Int32} (hO : OK ws k0 k1 o a) {p1 : Int32} {p2 : Int32} {p3 : Int32}  (hE : X4_shift f p1 p2 p3 = some (f1)) : Ct l yX4_shift cX4_shift 5 none (rmOf 1 23) D (tyL cI cZ cD) [.ref o, .int p1, .int p2, .int p3] (wO ws k1 cI a f) none (wO ws k1 cI a f1) := by
  refine Ct.ofW (by decide +kernel) (fun p e s m below meth c hC hI => ?_)
  obtain ⟨hx, hb, hml, hown, hr, hlk, hG⟩ := hC
  have hown : s.vm.findClass RX4 = some m.cls := hown
  have hl := lv_entry ([.ref o, .int p1, .int p2, .int p3] : List Value) (n := 5) (Nat.le_of_ble_eq_true rfl)
  rw [lg_entry_eq]
  generalize (lg_sl ([.ref o, .int p1, .int p2, .int p3] : List Value) ++ List.replicate (5 - (lg_sl ([.ref o, .int p1, .int p2, .int p3] : List Value)).length) Slot.unset).toArray = ls at hl ⊢
  have hl : lv_has ls 5 [(0, .ref o), (1, .int p1), (2, .int p2), (3, .int p3)] := hl
  unfold X4_shift at hE
  refine lv_iconst (v := 0) hx hb dX4_shift_0 (by decide) ?_
  refine lv_istore (lv' := [(4, .int 0), (0, .ref o), (1, .int p1), (2, .int p2), (3, .int p3)]) hx hb dX4_shift_1 hl (by decide) rfl (fun ls hl => ?_)
  obtain ⟨mu3, hZ, hE⟩ := bd1_some hE
  have hX3_3 : ∀ (H : Heap) (locs : List Loc) (ls : Array Slot), xI D (va_A (wO ws k1 cI a f) s.heap.size) s.heap (wO ws k1 cI a mu3) H locs → lv_has ls 5 [] → W p l e (rmOf 1 23) s m ([.ref o, .int p1, .int p2, .int p3] : List Value).toArray below meth c H locs 0 0 (xQ D (tyL cI cZ cD) below ([.ref o, .int p1, .int p2, .int p3] : List Value).toArray s (wO ws k1 cI a f) none (wO ws k1 cI a f1)) (F0 m 53 ls []) := by
    intro H locs ls hI hl
    clear hZ
    obtain rfl := sm1 hE
    exact xr_v hx hb hr hlk hG hI dX4_shift_53
  replace hE := hZ
  clear hZ
  have hL3 : ∀ (n3 : Nat) (x1 : Int32) (mu2 : (Nat → Int32)) (H : Heap) (locs : List Loc) (ls : Array Slot), X4_shift_L3 p1 p2 p3 n3 x1 mu2 = some mu3 → xI D (va_A (wO ws k1 cI a f) s.heap.size) s.heap (wO ws k1 cI a mu2) H locs → lv_has ls 5 [(0, .ref o), (1, .int p1), (2, .int p2), (3, .int p3), (4, .int x1)] → W p l e (rmOf 1 23) s m ([.ref o, .int p1, .int p2, .int p3] : List Value).toArray below meth c H locs 0 0 (xQ D (tyL cI cZ cD) below ([.ref o, .int p1, .int p2, .int p3] : List Value).toArray s (wO ws k1 cI a f) none (wO ws k1 cI a f1)) (F0 m 3 ls []) := by
    intro n3
    induction n3 with
    | zero =>
      intro x1 mu2 H locs ls hE
      exact absurd hE (by simp [X4_shift_L3])
    | succ n3 ih3 =>
      intro x1 mu2 H locs ls hE hI hl
      rw [X4_shift_L3] at hE
      refine lv_iload hx hb dX4_shift_3 (lv_at hl 4 rfl) ?_
      refine lv_bipush (v := 16) hx hb dX4_shift_5 (by decide) ?_
      refine lv_icmp_ge (tgt := 53) hx hb dX4_shift_7 (by decide) (fun c7 => ?_) (fun c7 => ?_)
      · rw [if_pos c7] at hE
        obtain rfl := sm1 hE
        exact hX3_3 _ _ _ hI (lv_sub hl [] rfl)
      · rw [if_neg c7] at hE
        refine lv_aload_n hx hb dX4_shift_10 rfl (lv_at hl 0 rfl) ?_
        refine lv_iload hx hb dX4_shift_11 (lv_at hl 4 rfl) ?_
        refine lv_iload_n hx hb dX4_shift_13 rfl (lv_at hl 1 rfl) ?_
        obtain ⟨r5, hc, hE⟩ := bd1_some hE
        refine xc_V1 (rest := []) (c_X4_isChild hO hc) mw_X4_isChild km_X4_32 hx hb hml hown hG hI xA_of (wO_at0 hO) rfl rfl ⟨Nat.le_of_ble_eq_true rfl, Nat.le_of_ble_eq_true rfl⟩ rfl hl.1 rfl (Nat.le_of_ble_eq_true rfl) dX4_shift_14 (fun H locs hI => ?_)
        refine lv_if_eq (tgt := 47) hx hb dX4_shift_17 (by decide) (fun c17 => ?_) (fun c17 => ?_)
        · rw [if_pos c17] at hE
          refine lv_iinc (v := x1 + 1) (lv' := [(4, .int (x1 + 1)), (0, .ref o), (1, .int p1), (2, .int p2), (3, .int p3)]) hx hb dX4_shift_47 hl (k := 4) rfl rfl (by decide) rfl (fun ls hl => ?_)
          refine lv_goto (tgt := 3) hx hb dX4_shift_50 (by decide) ?_
          exact ih3 _ _ _ _ _ hE hI (lv_sub hl [1, 2, 3, 4, 0] rfl)
        · rw [if_neg c17] at hE
          refine lv_aload_n hx hb dX4_shift_20 rfl (lv_at hl 0 rfl) ?_
          refine lv_iload hx hb dX4_shift_21 (lv_at hl 4 rfl) ?_
          refine lv_iconst (v := 1) hx hb dX4_shift_23 (by decide) ?_
          obtain ⟨r6, hc, hE⟩ := bd1_some hE
          refine xc_V1 (rest := []) (c_X4_trait hO hc) mw_X4_trait km_X4_36 hx hb hml hown hG hI xA_of (wO_at0 hO) rfl rfl ⟨Nat.le_of_ble_eq_true rfl, Nat.le_of_ble_eq_true rfl⟩ rfl hl.1 rfl (Nat.le_of_ble_eq_true rfl) dX4_shift_24 (fun H locs hI => ?_)
          refine lv_iload_n hx hb dX4_shift_27 rfl (lv_at hl 2 rfl) ?_
          refine lv_icmp_lt (tgt := 47) hx hb dX4_shift_28 (by decide) (fun c28 => ?_) (fun c28 => ?_)
          · rw [if_pos c28] at hE
            refine lv_iinc (v := x1 + 1) (lv' := [(4, .int (x1 + 1)), (0, .ref o), (1, .int p1), (2, .int p2), (3, .int p3)]) hx hb dX4_shift_47 hl (k := 4) rfl rfl (by decide) rfl (fun ls hl => ?_)
            refine lv_goto (tgt := 3) hx hb dX4_shift_50 (by decide) ?_
            exact ih3 _ _ _ _ _ hE hI (lv_sub hl [1, 2, 3, 4, 0] rfl)
          · rw [if_neg c28] at hE
            refine lv_aload_n hx hb dX4_shift_31 rfl (lv_at hl 0 rfl) ?_
            refine lv_iload hx hb dX4_shift_32 (lv_at hl 4 rfl) ?_
            refine lv_iconst (v := 1) hx hb dX4_shift_34 (by decide) ?_
            refine lv_aload_n hx hb dX4_shift_35 rfl (lv_at hl 0 rfl) ?_
            refine lv_iload hx hb dX4_shift_36 (lv_at hl 4 rfl) ?_
            refine lv_iconst (v := 1) hx hb dX4_shift_38 (by decide) ?_
            obtain ⟨r7, hc, hE⟩ := bd1_some hE
            refine xc_V1 (rest := [.int 1, .int x1, .ref o]) (c_X4_trait hO hc) mw_X4_trait km_X4_36 hx hb hml hown hG hI xA_of (wO_at0 hO) rfl rfl ⟨Nat.le_of_ble_eq_true rfl, Nat.le_of_ble_eq_true rfl⟩ rfl hl.1 rfl (Nat.le_of_ble_eq_true rfl) dX4_shift_39 (fun H locs hI => ?_)
            refine lv_iload_n hx hb dX4_shift_42 rfl (lv_at hl 3 rfl) ?_
            refine lv_iadd hx hb dX4_shift_43 ?_
            obtain ⟨fw8, hc, hE⟩ := bd1_some hE
            refine xc_V0 (rest := []) (c_X4_put hO hc) mw_X4_put km_X4_18 hx hb hml hown hG hI xA_of (wO_at0 hO) rfl rfl ⟨Nat.le_of_ble_eq_true rfl, Nat.le_of_ble_eq_true rfl⟩ rfl hl.1 rfl (Nat.le_of_ble_eq_true rfl) dX4_shift_44 (fun H locs hI => ?_)
            refine lv_iinc (v := x1 + 1) (lv' := [(4, .int (x1 + 1)), (0, .ref o), (1, .int p1), (2, .int p2), (3, .int p3)]) hx hb dX4_shift_47 hl (k := 4) rfl rfl (by decide) rfl (fun ls hl => ?_)
            refine lv_goto (tgt := 3) hx hb dX4_shift_50 (by decide) ?_
            exact ih3 _ _ _ _ _ hE hI (lv_sub hl [1, 2, 3, 4, 0] rfl)
  exact hL3 _ _ _ _ _ _ hE hI (lv_sub hl [1, 2, 3, 4, 0] rfl)
def X4_include (f : (Nat → Int32)) (p1 : Int32) : Option ((Nat → Int32)) :=
  (X4_put f p1 4 1 : Option (Nat → Int32)).bind fun (fw1 : (Nat → Int32)) => some fw1
set_option maxHeartbeats 4000000 in
set_option maxRecDepth 100000 in
theorem c_X4_include {l : Launch} {D : va_G} {cI cZ cD : ClassId} {ws : va_W} {k0 k1 o a : Nat} {f f1 : Nat → Int32} (hO : OK ws k0 k1 o a) {p1 : Int32}  (hE : X4_include f p1 = some (f1)) : Ct l yX4_include cX4_include 2 none (rmOf 1 23) D (tyL cI cZ cD) [.ref o, .int p1] (wO ws k1 cI a f) none (wO ws k1 cI a f1) := by
  refine Ct.ofW (by decide +kernel) (fun p e s m below meth c hC hI => ?_)
  obtain ⟨hx, hb, hml, hown, hr, hlk, hG⟩ := hC
  have hown : s.vm.findClass RX4 = some m.cls := hown
  have hl := lv_entry ([.ref o, .int p1] : List Value) (n := 2) (Nat.le_of_ble_eq_true rfl)
  rw [lg_entry_eq]
  generalize (lg_sl ([.ref o, .int p1] : List Value) ++ List.replicate (2 - (lg_sl ([.ref o, .int p1] : List Value)).length) Slot.unset).toArray = ls at hl ⊢
  have hl : lv_has ls 2 [(0, .ref o), (1, .int p1)] := hl
  unfold X4_include at hE
  refine lv_aload_n hx hb dX4_include_0 rfl (lv_at hl 0 rfl) ?_
  refine lv_iload_n hx hb dX4_include_1 rfl (lv_at hl 1 rfl) ?_
  refine lv_iconst (v := 4) hx hb dX4_include_2 (by decide) ?_
  refine lv_iconst (v := 1) hx hb dX4_include_3 (by decide) ?_
  obtain ⟨fw1, hc, hE⟩ := bd1_some hE
  refine xc_V0 (rest := []) (c_X4_put hO hc) mw_X4_put km_X4_18 hx hb hml hown hG hI xA_of (wO_at0 hO) rfl rfl ⟨Nat.le_of_ble_eq_true rfl, Nat.le_of_ble_eq_true rfl⟩ rfl hl.1 rfl (Nat.le_of_ble_eq_true rfl) dX4_include_4 (fun H locs hI => ?_)
  obtain rfl := sm1 hE
  exact xr_v hx hb hr hlk hG hI dX4_include_7
def X4_attach (f : (Nat → Int32)) (p1 : Int32) (p2 : Int32) (p3 : Int32) : Option ((Nat → Int32)) :=
  (X4_shift f p2 p3 1 : Option (Nat → Int32)).bind fun (fw1 : (Nat → Int32)) => (X4_include fw1 p1 : Option (Nat → Int32)).bind fun (fw2 : (Nat → Int32)) => (X4_put fw2 p1 0 p2 : Option (Nat → Int32)).bind fun (fw3 : (Nat → Int32)) => (X4_put fw3 p1 1 p3 : Option (Nat → Int32)).bind fun (fw4 : (Nat → Int32)) => some fw4
set_option maxHeartbeats 4000000 in
set_option maxRecDepth 100000 in
theorem c_X4_attach {l : Launch} {D : va_G} {cI cZ cD : ClassId} {ws : va_W} {k0 k1 o a : Nat} {f f1 : Nat → Int32} (hO : OK ws k0 k1 o a) {p1 : Int32} {p2 : Int32} {p3 : Int32}  (hE : X4_attach f p1 p2 p3 = some (f1)) : Ct l yX4_attach cX4_attach 4 none (rmOf 2 47) D (tyL cI cZ cD) [.ref o, .int p1, .int p2, .int p3] (wO ws k1 cI a f) none (wO ws k1 cI a f1) := by
  refine Ct.ofW (by decide +kernel) (fun p e s m below meth c hC hI => ?_)
  obtain ⟨hx, hb, hml, hown, hr, hlk, hG⟩ := hC
  have hown : s.vm.findClass RX4 = some m.cls := hown
  have hl := lv_entry ([.ref o, .int p1, .int p2, .int p3] : List Value) (n := 4) (Nat.le_of_ble_eq_true rfl)
  rw [lg_entry_eq]
  generalize (lg_sl ([.ref o, .int p1, .int p2, .int p3] : List Value) ++ List.replicate (4 - (lg_sl ([.ref o, .int p1, .int p2, .int p3] : List Value)).length) Slot.unset).toArray = ls at hl ⊢
  have hl : lv_has ls 4 [(0, .ref o), (1, .int p1), (2, .int p2), (3, .int p3)] := hl
  unfold X4_attach at hE
  refine lv_aload_n hx hb dX4_attach_0 rfl (lv_at hl 0 rfl) ?_
  refine lv_iload_n hx hb dX4_attach_1 rfl (lv_at hl 2 rfl) ?_
  refine lv_iload_n hx hb dX4_attach_2 rfl (lv_at hl 3 rfl) ?_
  refine lv_iconst (v := 1) hx hb dX4_attach_3 (by decide) ?_
  obtain ⟨fw1, hc, hE⟩ := bd1_some hE
  refine xc_V0 (rest := []) (c_X4_shift hO hc) mw_X4_shift km_X4_59 hx hb hml hown hG hI xA_of (wO_at0 hO) rfl rfl ⟨Nat.le_of_ble_eq_true rfl, Nat.le_of_ble_eq_true rfl⟩ rfl hl.1 rfl (Nat.le_of_ble_eq_true rfl) dX4_attach_4 (fun H locs hI => ?_)
  refine lv_aload_n hx hb dX4_attach_7 rfl (lv_at hl 0 rfl) ?_
  refine lv_iload_n hx hb dX4_attach_8 rfl (lv_at hl 1 rfl) ?_
  obtain ⟨fw2, hc, hE⟩ := bd1_some hE
  refine xc_V0 (rest := []) (c_X4_include hO hc) mw_X4_include km_X4_62 hx hb hml hown hG hI xA_of (wO_at0 hO) rfl rfl ⟨Nat.le_of_ble_eq_true rfl, Nat.le_of_ble_eq_true rfl⟩ rfl hl.1 rfl (Nat.le_of_ble_eq_true rfl) dX4_attach_9 (fun H locs hI => ?_)
  refine lv_aload_n hx hb dX4_attach_12 rfl (lv_at hl 0 rfl) ?_
  refine lv_iload_n hx hb dX4_attach_13 rfl (lv_at hl 1 rfl) ?_
  refine lv_iconst (v := 0) hx hb dX4_attach_14 (by decide) ?_
  refine lv_iload_n hx hb dX4_attach_15 rfl (lv_at hl 2 rfl) ?_
  obtain ⟨fw3, hc, hE⟩ := bd1_some hE
  refine xc_V0 (rest := []) (c_X4_put hO hc) mw_X4_put km_X4_18 hx hb hml hown hG hI xA_of (wO_at0 hO) rfl rfl ⟨Nat.le_of_ble_eq_true rfl, Nat.le_of_ble_eq_true rfl⟩ rfl hl.1 rfl (Nat.le_of_ble_eq_true rfl) dX4_attach_16 (fun H locs hI => ?_)
  refine lv_aload_n hx hb dX4_attach_19 rfl (lv_at hl 0 rfl) ?_
  refine lv_iload_n hx hb dX4_attach_20 rfl (lv_at hl 1 rfl) ?_
  refine lv_iconst (v := 1) hx hb dX4_attach_21 (by decide) ?_
  refine lv_iload_n hx hb dX4_attach_22 rfl (lv_at hl 3 rfl) ?_
  obtain ⟨fw4, hc, hE⟩ := bd1_some hE
  refine xc_V0 (rest := []) (c_X4_put hO hc) mw_X4_put km_X4_18 hx hb hml hown hG hI xA_of (wO_at0 hO) rfl rfl ⟨Nat.le_of_ble_eq_true rfl, Nat.le_of_ble_eq_true rfl⟩ rfl hl.1 rfl (Nat.le_of_ble_eq_true rfl) dX4_attach_23 (fun H locs hI => ?_)
  obtain rfl := sm1 hE
  exact xr_v hx hb hr hlk hG hI dX4_attach_26
def X4_isBelow_L5 (p2 : Int32) (f : (Nat → Int32)) : Nat → Int32 → Int32 → Option (Bool)
  | 0, _, _ => none
  | n5 + 1, x1, x2 =>
    (if 16 ≤ x2 then some false else (if x1 = p2 then some true else (X4_trait f x1 0 : Option Int32).bind fun (r3 : Int32) => X4_isBelow_L5 p2 f n5 r3 (x2 + 1)))
def X4_isBelow (f : (Nat → Int32)) (p1 : Int32) (p2 : Int32) : Option (Bool) :=
  X4_isBelow_L5 p2 f fu p1 0
set_option maxHeartbeats 4000000 in
set_option maxRecDepth 100000 in
theorem c_X4_isBelow {l : Launch} {D : va_G} {cI cZ cD : ClassId} {ws : va_W} {k0 k1 o a : Nat} {f : Nat → Int32} (hO : OK ws k0 k1 o a) {p1 : Int32} {p2 : Int32} {r : Bool}  (hE : X4_isBelow f p1 p2 = some (r)) : Ct l yX4_isBelow cX4_isBelow 5 (some .boolean) (rmOf 1 22) D (tyL cI cZ cD) [.ref o, .int p1, .int p2] (wO ws k1 cI a f) (some (.int (b2i r))) (wO ws k1 cI a f) := by
  refine Ct.ofW (by decide +kernel) (fun p e s m below meth c hC hI => ?_)
  obtain ⟨hx, hb, hml, hown, hr, hlk, hG⟩ := hC
  have hown : s.vm.findClass RX4 = some m.cls := hown
  have hl := lv_entry ([.ref o, .int p1, .int p2] : List Value) (n := 5) (Nat.le_of_ble_eq_true rfl)
  rw [lg_entry_eq]
  generalize (lg_sl ([.ref o, .int p1, .int p2] : List Value) ++ List.replicate (5 - (lg_sl ([.ref o, .int p1, .int p2] : List Value)).length) Slot.unset).toArray = ls at hl ⊢
  have hl : lv_has ls 5 [(0, .ref o), (1, .int p1), (2, .int p2)] := hl
  unfold X4_isBelow at hE
  refine lv_iload_n hx hb dX4_isBelow_0 rfl (lv_at hl 1 rfl) ?_
  refine lv_istore_n (lv' := [(3, .int p1), (0, .ref o), (1, .int p1), (2, .int p2)]) hx hb dX4_isBelow_1 rfl hl (by decide) rfl (fun ls hl => ?_)
  refine lv_iconst (v := 0) hx hb dX4_isBelow_2 (by decide) ?_
  refine lv_istore (lv' := [(4, .int 0), (3, .int p1), (0, .ref o), (1, .int p1), (2, .int p2)]) hx hb dX4_isBelow_3 hl (by decide) rfl (fun ls hl => ?_)
  have hL5 : ∀ (n5 : Nat) (x1 : Int32) (x2 : Int32) (H : Heap) (locs : List Loc) (ls : Array Slot), X4_isBelow_L5 p2 f n5 x1 x2 = some r → xI D (va_A (wO ws k1 cI a f) s.heap.size) s.heap (wO ws k1 cI a f) H locs → lv_has ls 5 [(0, .ref o), (2, .int p2), (3, .int x1), (4, .int x2)] → W p l e (rmOf 1 22) s m ([.ref o, .int p1, .int p2] : List Value).toArray below meth c H locs 0 0 (xQ D (tyL cI cZ cD) below ([.ref o, .int p1, .int p2] : List Value).toArray s (wO ws k1 cI a f) (some (.int (b2i r))) (wO ws k1 cI a f)) (F0 m 5 ls []) := by
    intro n5
    induction n5 with
    | zero =>
      intro x1 x2 H locs ls hE
      exact absurd hE (by simp [X4_isBelow_L5])
    | succ n5 ih5 =>
      intro x1 x2 H locs ls hE hI hl
      rw [X4_isBelow_L5] at hE
      refine lv_iload hx hb dX4_isBelow_5 (lv_at hl 3 rfl) ?_
      refine lv_bipush (v := 16) hx hb dX4_isBelow_7 (by decide) ?_
      refine lv_icmp_ge (tgt := 32) hx hb dX4_isBelow_9 (by decide) (fun c9 => ?_) (fun c9 => ?_)
      · rw [if_pos c9] at hE
        refine lv_iconst (v := 0) hx hb dX4_isBelow_32 (by decide) ?_
        obtain rfl := sm1 hE
        exact xr_z rfl hx hb hr hlk hG hI dX4_isBelow_33
      · rw [if_neg c9] at hE
        refine lv_iload_n hx hb dX4_isBelow_12 rfl (lv_at hl 2 rfl) ?_
        refine lv_iload_n hx hb dX4_isBelow_13 rfl (lv_at hl 1 rfl) ?_
        refine lv_icmp_ne (tgt := 19) hx hb dX4_isBelow_14 (by decide) (fun c14 => ?_) (fun c14 => ?_)
        · rw [if_neg c14] at hE
          refine lv_aload_n hx hb dX4_isBelow_19 rfl (lv_at hl 0 rfl) ?_
          refine lv_iload_n hx hb dX4_isBelow_20 rfl (lv_at hl 2 rfl) ?_
          refine lv_iconst (v := 0) hx hb dX4_isBelow_21 (by decide) ?_
          obtain ⟨r3, hc, hE⟩ := bd1_some hE
          refine xc_V1 (rest := []) (c_X4_trait hO hc) mw_X4_trait km_X4_36 hx hb hml hown hG hI xA_of (wO_at0 hO) rfl rfl ⟨Nat.le_of_ble_eq_true rfl, Nat.le_of_ble_eq_true rfl⟩ rfl hl.1 rfl (Nat.le_of_ble_eq_true rfl) dX4_isBelow_22 (fun H locs hI => ?_)
          refine lv_istore_n (lv' := [(3, .int r3), (0, .ref o), (2, .int p2), (4, .int x2)]) hx hb dX4_isBelow_25 rfl hl (by decide) rfl (fun ls hl => ?_)
          refine lv_iinc (v := x2 + 1) (lv' := [(4, .int (x2 + 1)), (3, .int r3), (0, .ref o), (2, .int p2)]) hx hb dX4_isBelow_26 hl (k := 3) rfl rfl (by decide) rfl (fun ls hl => ?_)
          refine lv_goto (tgt := 5) hx hb dX4_isBelow_29 (by decide) ?_
          exact ih5 _ _ _ _ _ hE hI (lv_sub hl [2, 3, 1, 0] rfl)
        · rw [if_pos c14] at hE
          refine lv_iconst (v := 1) hx hb dX4_isBelow_17 (by decide) ?_
          obtain rfl := sm1 hE
          exact xr_z rfl hx hb hr hlk hG hI dX4_isBelow_18
  exact hL5 _ _ _ _ _ _ hE hI (lv_sub hl [2, 4, 1, 0] rfl)
def X4_detach (f : (Nat → Int32)) (p1 : Int32) : Option ((Nat → Int32)) :=
  (X4_trait f p1 0 : Option Int32).bind fun (r1 : Int32) => (X4_trait f p1 1 : Option Int32).bind fun (r2 : Int32) => (X4_put f p1 0 (-1) : Option (Nat → Int32)).bind fun (fw3 : (Nat → Int32)) => (X4_shift fw3 r1 r2 (-1) : Option (Nat → Int32)).bind fun (fw4 : (Nat → Int32)) => some fw4
set_option maxHeartbeats 4000000 in
set_option maxRecDepth 100000 in
theorem c_X4_detach {l : Launch} {D : va_G} {cI cZ cD : ClassId} {ws : va_W} {k0 k1 o a : Nat} {f f1 : Nat → Int32} (hO : OK ws k0 k1 o a) {p1 : Int32}  (hE : X4_detach f p1 = some (f1)) : Ct l yX4_detach cX4_detach 4 none (rmOf 2 47) D (tyL cI cZ cD) [.ref o, .int p1] (wO ws k1 cI a f) none (wO ws k1 cI a f1) := by
  refine Ct.ofW (by decide +kernel) (fun p e s m below meth c hC hI => ?_)
  obtain ⟨hx, hb, hml, hown, hr, hlk, hG⟩ := hC
  have hown : s.vm.findClass RX4 = some m.cls := hown
  have hl := lv_entry ([.ref o, .int p1] : List Value) (n := 4) (Nat.le_of_ble_eq_true rfl)
  rw [lg_entry_eq]
  generalize (lg_sl ([.ref o, .int p1] : List Value) ++ List.replicate (4 - (lg_sl ([.ref o, .int p1] : List Value)).length) Slot.unset).toArray = ls at hl ⊢
  have hl : lv_has ls 4 [(0, .ref o), (1, .int p1)] := hl
  unfold X4_detach at hE
  refine lv_aload_n hx hb dX4_detach_0 rfl (lv_at hl 0 rfl) ?_
  refine lv_iload_n hx hb dX4_detach_1 rfl (lv_at hl 1 rfl) ?_
  refine lv_iconst (v := 0) hx hb dX4_detach_2 (by decide) ?_
  obtain ⟨r1, hc, hE⟩ := bd1_some hE
  refine xc_V1 (rest := []) (c_X4_trait hO hc) mw_X4_trait km_X4_36 hx hb hml hown hG hI xA_of (wO_at0 hO) rfl rfl ⟨Nat.le_of_ble_eq_true rfl, Nat.le_of_ble_eq_true rfl⟩ rfl hl.1 rfl (Nat.le_of_ble_eq_true rfl) dX4_detach_3 (fun H locs hI => ?_)
  refine lv_istore_n (lv' := [(2, .int r1), (0, .ref o), (1, .int p1)]) hx hb dX4_detach_6 rfl hl (by decide) rfl (fun ls hl => ?_)
  refine lv_aload_n hx hb dX4_detach_7 rfl (lv_at hl 1 rfl) ?_
  refine lv_iload_n hx hb dX4_detach_8 rfl (lv_at hl 2 rfl) ?_
  refine lv_iconst (v := 1) hx hb dX4_detach_9 (by decide) ?_
  obtain ⟨r2, hc, hE⟩ := bd1_some hE
  refine xc_V1 (rest := []) (c_X4_trait hO hc) mw_X4_trait km_X4_36 hx hb hml hown hG hI xA_of (wO_at0 hO) rfl rfl ⟨Nat.le_of_ble_eq_true rfl, Nat.le_of_ble_eq_true rfl⟩ rfl hl.1 rfl (Nat.le_of_ble_eq_true rfl) dX4_detach_10 (fun H locs hI => ?_)
  refine lv_istore_n (lv' := [(3, .int r2), (2, .int r1), (0, .ref o), (1, .int p1)]) hx hb dX4_detach_13 rfl hl (by decide) rfl (fun ls hl => ?_)
  refine lv_aload_n hx hb dX4_detach_14 rfl (lv_at hl 2 rfl) ?_
  refine lv_iload_n hx hb dX4_detach_15 rfl (lv_at hl 3 rfl) ?_
  refine lv_iconst (v := 0) hx hb dX4_detach_16 (by decide) ?_
  refine lv_iconst (v := (-1)) hx hb dX4_detach_17 (by decide) ?_
  obtain ⟨fw3, hc, hE⟩ := bd1_some hE
  refine xc_V0 (rest := []) (c_X4_put hO hc) mw_X4_put km_X4_18 hx hb hml hown hG hI xA_of (wO_at0 hO) rfl rfl ⟨Nat.le_of_ble_eq_true rfl, Nat.le_of_ble_eq_true rfl⟩ rfl hl.1 rfl (Nat.le_of_ble_eq_true rfl) dX4_detach_18 (fun H locs hI => ?_)
  refine lv_aload_n hx hb dX4_detach_21 rfl (lv_at hl 2 rfl) ?_
  refine lv_iload_n hx hb dX4_detach_22 rfl (lv_at hl 1 rfl) ?_
  refine lv_iload_n hx hb dX4_detach_23 rfl (lv_at hl 0 rfl) ?_
  refine lv_iconst (v := (-1)) hx hb dX4_detach_24 (by decide) ?_
  obtain ⟨fw4, hc, hE⟩ := bd1_some hE
  refine xc_V0 (rest := []) (c_X4_shift hO hc) mw_X4_shift km_X4_59 hx hb hml hown hG hI xA_of (wO_at0 hO) rfl rfl ⟨Nat.le_of_ble_eq_true rfl, Nat.le_of_ble_eq_true rfl⟩ rfl hl.1 rfl (Nat.le_of_ble_eq_true rfl) dX4_detach_25 (fun H locs hI => ?_)
  obtain rfl := sm1 hE
  exact xr_v hx hb hr hlk hG hI dX4_detach_28
def X4_drop_L50 (x3 : Int32) : Nat → Int32 → (Nat → Int32) → Option ((Nat → Int32))
  | 0, _, _ => none
  | n50 + 1, x6, mu7 =>
    (if 16 ≤ x6 then some mu7 else (if ((x3 >>> (x6 &&& 31)) &&& 1) = 1 then (X4_put mu7 x6 4 0 : Option (Nat → Int32)).bind fun (fw11 : (Nat → Int32)) => X4_drop_L50 x3 n50 (x6 + 1) fw11 else X4_drop_L50 x3 n50 (x6 + 1) mu7))
def X4_drop_L4 (p1 : Int32) (f : (Nat → Int32)) : Nat → Int32 → Int32 → Option (Int32)
  | 0, _, _ => none
  | n4 + 1, x1, x2 =>
    (if 16 ≤ x2 then some x1 else (X4_holds f x2 : Option Bool).bind fun (r12 : Bool) => ((if (b2i r12) = 0 then some 0 else (X4_isBelow f x2 p1 : Option Bool).bind fun (r15 : Bool) => (if (b2i r15) = 0 then some 0 else some (1 <<< (x2 &&& 31)))) : Option Int32).bind fun (x13 : Int32) => X4_drop_L4 p1 f n4 (x1 ||| x13) (x2 + 1))
def X4_drop (f : (Nat → Int32)) (p1 : Int32) : Option (Int32 × (Nat → Int32)) :=
  (X4_drop_L4 p1 f fu 0 1 : Option Int32).bind fun (x3 : Int32) => (X4_detach f p1 : Option (Nat → Int32)).bind fun (fw5 : (Nat → Int32)) => (X4_drop_L50 x3 fu 1 fw5 : Option (Nat → Int32)).bind fun (mu8 : (Nat → Int32)) => (J6_bitCount_0f7a4 x3 : Option Int32).bind fun (r10 : Int32) => some (r10, mu8)
set_option maxHeartbeats 4000000 in
set_option maxRecDepth 100000 in
theorem c_X4_drop {l : Launch} {D : va_G} {cI cZ cD : ClassId} {ws : va_W} {k0 k1 o a : Nat} {f f1 : Nat → Int32} (hO : OK ws k0 k1 o a) {p1 : Int32} {r : Int32}  (hE : X4_drop f p1 = some (r, f1)) : Ct l yX4_drop cX4_drop 4 (some .int) (rmOf 3 70) D (tyL cI cZ cD) [.ref o, .int p1] (wO ws k1 cI a f) (some (.int r)) (wO ws k1 cI a f1) := by
  refine Ct.ofW (by decide +kernel) (fun p e s m below meth c hC hI => ?_)
  obtain ⟨hx, hb, hml, hown, hr, hlk, hG⟩ := hC
  have hown : s.vm.findClass RX4 = some m.cls := hown
  have hl := lv_entry ([.ref o, .int p1] : List Value) (n := 4) (Nat.le_of_ble_eq_true rfl)
  rw [lg_entry_eq]
  generalize (lg_sl ([.ref o, .int p1] : List Value) ++ List.replicate (4 - (lg_sl ([.ref o, .int p1] : List Value)).length) Slot.unset).toArray = ls at hl ⊢
  have hl : lv_has ls 4 [(0, .ref o), (1, .int p1)] := hl
  unfold X4_drop at hE
  refine lv_iconst (v := 0) hx hb dX4_drop_0 (by decide) ?_
  refine lv_istore_n (lv' := [(2, .int 0), (0, .ref o), (1, .int p1)]) hx hb dX4_drop_1 rfl hl (by decide) rfl (fun ls hl => ?_)
  refine lv_iconst (v := 1) hx hb dX4_drop_2 (by decide) ?_
  refine lv_istore_n (lv' := [(3, .int 1), (2, .int 0), (0, .ref o), (1, .int p1)]) hx hb dX4_drop_3 rfl hl (by decide) rfl (fun ls hl => ?_)
  obtain ⟨x3, hZ, hE⟩ := bd1_some hE
  have hX4_3 : ∀ (H : Heap) (locs : List Loc) (ls : Array Slot), xI D (va_A (wO ws k1 cI a f) s.heap.size) s.heap (wO ws k1 cI a f) H locs → lv_has ls 4 [(0, .ref o), (1, .int p1), (2, .int x3)] → W p l e (rmOf 3 70) s m ([.ref o, .int p1] : List Value).toArray below meth c H locs 0 0 (xQ D (tyL cI cZ cD) below ([.ref o, .int p1] : List Value).toArray s (wO ws k1 cI a f) (some (.int r)) (wO ws k1 cI a f1)) (F0 m 43 ls []) := by
    intro H locs ls hI hl
    clear hZ
    refine lv_aload_n hx hb dX4_drop_43 rfl (lv_at hl 0 rfl) ?_
    refine lv_iload_n hx hb dX4_drop_44 rfl (lv_at hl 1 rfl) ?_
    obtain ⟨fw5, hc, hE⟩ := bd1_some hE
    refine xc_V0 (rest := []) (c_X4_detach hO hc) mw_X4_detach km_X4_66 hx hb hml hown hG hI xA_of (wO_at0 hO) rfl rfl ⟨Nat.le_of_ble_eq_true rfl, Nat.le_of_ble_eq_true rfl⟩ rfl hl.1 rfl (Nat.le_of_ble_eq_true rfl) dX4_drop_45 (fun H locs hI => ?_)
    refine lv_iconst (v := 1) hx hb dX4_drop_48 (by decide) ?_
    refine lv_istore_n (lv' := [(3, .int 1), (0, .ref o), (1, .int p1), (2, .int x3)]) hx hb dX4_drop_49 rfl hl (by decide) rfl (fun ls hl => ?_)
    obtain ⟨mu8, hZ, hE⟩ := bd1_some hE
    have hX50_8 : ∀ (H : Heap) (locs : List Loc) (ls : Array Slot), xI D (va_A (wO ws k1 cI a f) s.heap.size) s.heap (wO ws k1 cI a mu8) H locs → lv_has ls 4 [(2, .int x3)] → W p l e (rmOf 3 70) s m ([.ref o, .int p1] : List Value).toArray below meth c H locs 0 0 (xQ D (tyL cI cZ cD) below ([.ref o, .int p1] : List Value).toArray s (wO ws k1 cI a f) (some (.int r)) (wO ws k1 cI a f1)) (F0 m 78 ls []) := by
      intro H locs ls hI hl
      clear hZ
      refine lv_iload_n hx hb dX4_drop_78 rfl (lv_at hl 0 rfl) ?_
      obtain ⟨r10, hc, hE⟩ := bd1_some hE
      refine xc_S1 (rest := []) (c_J6_bitCount_0f7a4 hc) mw_J6_bitCount_0f7a4 km_X4_69 hx hb hml hown hG hI xA_of ⟨Nat.le_of_ble_eq_true rfl, Nat.le_of_ble_eq_true rfl⟩ rfl hl.1 rfl (Nat.le_of_ble_eq_true rfl) dX4_drop_79 (fun H locs hI => ?_)
      obtain ⟨rfl, rfl⟩ := sm2 hE
      exact xr_i hx hb hr hlk hG hI dX4_drop_82
    replace hE := hZ
    clear hZ
    have hL50 : ∀ (n50 : Nat) (x6 : Int32) (mu7 : (Nat → Int32)) (H : Heap) (locs : List Loc) (ls : Array Slot), X4_drop_L50 x3 n50 x6 mu7 = some mu8 → xI D (va_A (wO ws k1 cI a f) s.heap.size) s.heap (wO ws k1 cI a mu7) H locs → lv_has ls 4 [(0, .ref o), (2, .int x3), (3, .int x6)] → W p l e (rmOf 3 70) s m ([.ref o, .int p1] : List Value).toArray below meth c H locs 0 0 (xQ D (tyL cI cZ cD) below ([.ref o, .int p1] : List Value).toArray s (wO ws k1 cI a f) (some (.int r)) (wO ws k1 cI a f1)) (F0 m 50 ls []) := by
      intro n50
      induction n50 with
      | zero =>
        intro x6 mu7 H locs ls hE
        exact absurd hE (by simp [X4_drop_L50])
      | succ n50 ih50 =>
        intro x6 mu7 H locs ls hE hI hl
        rw [X4_drop_L50] at hE
        refine lv_iload_n hx hb dX4_drop_50 rfl (lv_at hl 2 rfl) ?_
        refine lv_bipush (v := 16) hx hb dX4_drop_51 (by decide) ?_
        refine lv_icmp_ge (tgt := 78) hx hb dX4_drop_53 (by decide) (fun c53 => ?_) (fun c53 => ?_)
        · rw [if_pos c53] at hE
          obtain rfl := sm1 hE
          exact hX50_8 _ _ _ hI (lv_sub hl [1] rfl)
        · rw [if_neg c53] at hE
          refine lv_iload_n hx hb dX4_drop_56 rfl (lv_at hl 1 rfl) ?_
          refine lv_iload_n hx hb dX4_drop_57 rfl (lv_at hl 2 rfl) ?_
          refine lv_ishr hx hb dX4_drop_58 ?_
          refine lv_iconst (v := 1) hx hb dX4_drop_59 (by decide) ?_
          refine lv_iand hx hb dX4_drop_60 ?_
          refine lv_iconst (v := 1) hx hb dX4_drop_61 (by decide) ?_
          refine lv_icmp_ne (tgt := 72) hx hb dX4_drop_62 (by decide) (fun c62 => ?_) (fun c62 => ?_)
          · rw [if_neg c62] at hE
            refine lv_iinc (v := x6 + 1) (lv' := [(3, .int (x6 + 1)), (0, .ref o), (2, .int x3)]) hx hb dX4_drop_72 hl (k := 2) rfl rfl (by decide) rfl (fun ls hl => ?_)
            refine lv_goto (tgt := 50) hx hb dX4_drop_75 (by decide) ?_
            exact ih50 _ _ _ _ _ hE hI (lv_sub hl [1, 2, 0] rfl)
          · rw [if_pos c62] at hE
            refine lv_aload_n hx hb dX4_drop_65 rfl (lv_at hl 0 rfl) ?_
            refine lv_iload_n hx hb dX4_drop_66 rfl (lv_at hl 2 rfl) ?_
            refine lv_iconst (v := 4) hx hb dX4_drop_67 (by decide) ?_
            refine lv_iconst (v := 0) hx hb dX4_drop_68 (by decide) ?_
            obtain ⟨fw11, hc, hE⟩ := bd1_some hE
            refine xc_V0 (rest := []) (c_X4_put hO hc) mw_X4_put km_X4_18 hx hb hml hown hG hI xA_of (wO_at0 hO) rfl rfl ⟨Nat.le_of_ble_eq_true rfl, Nat.le_of_ble_eq_true rfl⟩ rfl hl.1 rfl (Nat.le_of_ble_eq_true rfl) dX4_drop_69 (fun H locs hI => ?_)
            refine lv_iinc (v := x6 + 1) (lv' := [(3, .int (x6 + 1)), (0, .ref o), (2, .int x3)]) hx hb dX4_drop_72 hl (k := 2) rfl rfl (by decide) rfl (fun ls hl => ?_)
            refine lv_goto (tgt := 50) hx hb dX4_drop_75 (by decide) ?_
            exact ih50 _ _ _ _ _ hE hI (lv_sub hl [1, 2, 0] rfl)
    exact hL50 _ _ _ _ _ _ hE hI (lv_sub hl [1, 3, 0] rfl)
  replace hE := hZ
  clear hZ
  have hL4 : ∀ (n4 : Nat) (x1 : Int32) (x2 : Int32) (H : Heap) (locs : List Loc) (ls : Array Slot), X4_drop_L4 p1 f n4 x1 x2 = some x3 → xI D (va_A (wO ws k1 cI a f) s.heap.size) s.heap (wO ws k1 cI a f) H locs → lv_has ls 4 [(0, .ref o), (1, .int p1), (2, .int x1), (3, .int x2)] → W p l e (rmOf 3 70) s m ([.ref o, .int p1] : List Value).toArray below meth c H locs 0 0 (xQ D (tyL cI cZ cD) below ([.ref o, .int p1] : List Value).toArray s (wO ws k1 cI a f) (some (.int r)) (wO ws k1 cI a f1)) (F0 m 4 ls []) := by
    intro n4
    induction n4 with
    | zero =>
      intro x1 x2 H locs ls hE
      exact absurd hE (by simp [X4_drop_L4])
    | succ n4 ih4 =>
      intro x1 x2 H locs ls hE hI hl
      rw [X4_drop_L4] at hE
      refine lv_iload_n hx hb dX4_drop_4 rfl (lv_at hl 3 rfl) ?_
      refine lv_bipush (v := 16) hx hb dX4_drop_5 (by decide) ?_
      refine lv_icmp_ge (tgt := 43) hx hb dX4_drop_7 (by decide) (fun c7 => ?_) (fun c7 => ?_)
      · rw [if_pos c7] at hE
        obtain rfl := sm1 hE
        exact hX4_3 _ _ _ hI (lv_sub hl [0, 1, 2] rfl)
      · rw [if_neg c7] at hE
        refine lv_iload_n hx hb dX4_drop_10 rfl (lv_at hl 2 rfl) ?_
        refine lv_aload_n hx hb dX4_drop_11 rfl (lv_at hl 0 rfl) ?_
        refine lv_iload_n hx hb dX4_drop_12 rfl (lv_at hl 3 rfl) ?_
        obtain ⟨r12, hc, hE⟩ := bd1_some hE
        refine xc_V1 (rest := [.int x1]) (c_X4_holds hO hc) mw_X4_holds km_X4_28 hx hb hml hown hG hI xA_of (wO_at0 hO) rfl rfl ⟨Nat.le_of_ble_eq_true rfl, Nat.le_of_ble_eq_true rfl⟩ rfl hl.1 rfl (Nat.le_of_ble_eq_true rfl) dX4_drop_13 (fun H locs hI => ?_)
        obtain ⟨x13, hZ, hE⟩ := bd1_some hE
        have hJ35_13 : ∀ (H : Heap) (locs : List Loc) (ls : Array Slot), xI D (va_A (wO ws k1 cI a f) s.heap.size) s.heap (wO ws k1 cI a f) H locs → lv_has ls 4 [(0, .ref o), (1, .int p1), (3, .int x2)] → W p l e (rmOf 3 70) s m ([.ref o, .int p1] : List Value).toArray below meth c H locs 0 0 (xQ D (tyL cI cZ cD) below ([.ref o, .int p1] : List Value).toArray s (wO ws k1 cI a f) (some (.int r)) (wO ws k1 cI a f1)) (F0 m 35 ls [.int x13, .int x1]) := by
          intro H locs ls hI hl
          clear hZ
          refine lv_ior hx hb dX4_drop_35 ?_
          refine lv_istore_n (lv' := [(2, .int (x1 ||| x13)), (0, .ref o), (1, .int p1), (3, .int x2)]) hx hb dX4_drop_36 rfl hl (by decide) rfl (fun ls hl => ?_)
          refine lv_iinc (v := x2 + 1) (lv' := [(3, .int (x2 + 1)), (2, .int (x1 ||| x13)), (0, .ref o), (1, .int p1)]) hx hb dX4_drop_37 hl (k := 3) rfl rfl (by decide) rfl (fun ls hl => ?_)
          refine lv_goto (tgt := 4) hx hb dX4_drop_40 (by decide) ?_
          exact ih4 _ _ _ _ _ hE hI (lv_sub hl [2, 3, 1, 0] rfl)
        replace hE := hZ
        clear hZ
        refine lv_if_eq (tgt := 34) hx hb dX4_drop_16 (by decide) (fun c16 => ?_) (fun c16 => ?_)
        · rw [if_pos c16] at hE
          refine lv_iconst (v := 0) hx hb dX4_drop_34 (by decide) ?_
          obtain rfl := sm1 hE
          exact hJ35_13 _ _ _ hI (lv_sub hl [0, 1, 3] rfl)
        · rw [if_neg c16] at hE
          refine lv_aload_n hx hb dX4_drop_19 rfl (lv_at hl 0 rfl) ?_
          refine lv_iload_n hx hb dX4_drop_20 rfl (lv_at hl 3 rfl) ?_
          refine lv_iload_n hx hb dX4_drop_21 rfl (lv_at hl 1 rfl) ?_
          obtain ⟨r15, hc, hE⟩ := bd1_some hE
          refine xc_V1 (rest := [.int x1]) (c_X4_isBelow hO hc) mw_X4_isBelow km_X4_40 hx hb hml hown hG hI xA_of (wO_at0 hO) rfl rfl ⟨Nat.le_of_ble_eq_true rfl, Nat.le_of_ble_eq_true rfl⟩ rfl hl.1 rfl (Nat.le_of_ble_eq_true rfl) dX4_drop_22 (fun H locs hI => ?_)
          refine lv_if_eq (tgt := 34) hx hb dX4_drop_25 (by decide) (fun c25 => ?_) (fun c25 => ?_)
          · rw [if_pos c25] at hE
            refine lv_iconst (v := 0) hx hb dX4_drop_34 (by decide) ?_
            obtain rfl := sm1 hE
            exact hJ35_13 _ _ _ hI (lv_sub hl [0, 1, 3] rfl)
          · rw [if_neg c25] at hE
            refine lv_iconst (v := 1) hx hb dX4_drop_28 (by decide) ?_
            refine lv_iload_n hx hb dX4_drop_29 rfl (lv_at hl 3 rfl) ?_
            refine lv_ishl hx hb dX4_drop_30 ?_
            refine lv_goto (tgt := 35) hx hb dX4_drop_31 (by decide) ?_
            obtain rfl := sm1 hE
            exact hJ35_13 _ _ _ hI (lv_sub hl [0, 1, 3] rfl)
  exact hL4 _ _ _ _ _ _ hE hI (lv_sub hl [2, 3, 1, 0] rfl)
def X4_count_L4 (f : (Nat → Int32)) : Nat → Int32 → Int32 → Option (Int32)
  | 0, _, _ => none
  | n4 + 1, x1, x2 =>
    (if 16 ≤ x2 then some x1 else (X4_holds f x2 : Option Bool).bind fun (r5 : Bool) => ((if (b2i r5) = 0 then some 0 else some 1) : Option Int32).bind fun (x6 : Int32) => X4_count_L4 f n4 (x1 + x6) (x2 + 1))
def X4_count (f : (Nat → Int32)) : Option (Int32) :=
  (X4_count_L4 f fu 0 0 : Option Int32).bind fun (x3 : Int32) => some x3
set_option maxHeartbeats 4000000 in
set_option maxRecDepth 100000 in
theorem c_X4_count {l : Launch} {D : va_G} {cI cZ cD : ClassId} {ws : va_W} {k0 k1 o a : Nat} {f : Nat → Int32} (hO : OK ws k0 k1 o a) {r : Int32}  (hE : X4_count f = some (r)) : Ct l yX4_count cX4_count 3 (some .int) (rmOf 1 21) D (tyL cI cZ cD) [.ref o] (wO ws k1 cI a f) (some (.int r)) (wO ws k1 cI a f) := by
  refine Ct.ofW (by decide +kernel) (fun p e s m below meth c hC hI => ?_)
  obtain ⟨hx, hb, hml, hown, hr, hlk, hG⟩ := hC
  have hown : s.vm.findClass RX4 = some m.cls := hown
  have hl := lv_entry ([.ref o] : List Value) (n := 3) (Nat.le_of_ble_eq_true rfl)
  rw [lg_entry_eq]
  generalize (lg_sl ([.ref o] : List Value) ++ List.replicate (3 - (lg_sl ([.ref o] : List Value)).length) Slot.unset).toArray = ls at hl ⊢
  have hl : lv_has ls 3 [(0, .ref o)] := hl
  unfold X4_count at hE
  refine lv_iconst (v := 0) hx hb dX4_count_0 (by decide) ?_
  refine lv_istore_n (lv' := [(1, .int 0), (0, .ref o)]) hx hb dX4_count_1 rfl hl (by decide) rfl (fun ls hl => ?_)
  refine lv_iconst (v := 0) hx hb dX4_count_2 (by decide) ?_
  refine lv_istore_n (lv' := [(2, .int 0), (1, .int 0), (0, .ref o)]) hx hb dX4_count_3 rfl hl (by decide) rfl (fun ls hl => ?_)
  obtain ⟨x3, hZ, hE⟩ := bd1_some hE
  have hX4_3 : ∀ (H : Heap) (locs : List Loc) (ls : Array Slot), xI D (va_A (wO ws k1 cI a f) s.heap.size) s.heap (wO ws k1 cI a f) H locs → lv_has ls 3 [(1, .int x3)] → W p l e (rmOf 1 21) s m ([.ref o] : List Value).toArray below meth c H locs 0 0 (xQ D (tyL cI cZ cD) below ([.ref o] : List Value).toArray s (wO ws k1 cI a f) (some (.int r)) (wO ws k1 cI a f)) (F0 m 32 ls []) := by
    intro H locs ls hI hl
    clear hZ
    refine lv_iload_n hx hb dX4_count_32 rfl (lv_at hl 0 rfl) ?_
    obtain rfl := sm1 hE
    exact xr_i hx hb hr hlk hG hI dX4_count_33
  replace hE := hZ
  clear hZ
  have hL4 : ∀ (n4 : Nat) (x1 : Int32) (x2 : Int32) (H : Heap) (locs : List Loc) (ls : Array Slot), X4_count_L4 f n4 x1 x2 = some x3 → xI D (va_A (wO ws k1 cI a f) s.heap.size) s.heap (wO ws k1 cI a f) H locs → lv_has ls 3 [(0, .ref o), (1, .int x1), (2, .int x2)] → W p l e (rmOf 1 21) s m ([.ref o] : List Value).toArray below meth c H locs 0 0 (xQ D (tyL cI cZ cD) below ([.ref o] : List Value).toArray s (wO ws k1 cI a f) (some (.int r)) (wO ws k1 cI a f)) (F0 m 4 ls []) := by
    intro n4
    induction n4 with
    | zero =>
      intro x1 x2 H locs ls hE
      exact absurd hE (by simp [X4_count_L4])
    | succ n4 ih4 =>
      intro x1 x2 H locs ls hE hI hl
      rw [X4_count_L4] at hE
      refine lv_iload_n hx hb dX4_count_4 rfl (lv_at hl 2 rfl) ?_
      refine lv_bipush (v := 16) hx hb dX4_count_5 (by decide) ?_
      refine lv_icmp_ge (tgt := 32) hx hb dX4_count_7 (by decide) (fun c7 => ?_) (fun c7 => ?_)
      · rw [if_pos c7] at hE
        obtain rfl := sm1 hE
        exact hX4_3 _ _ _ hI (lv_sub hl [1] rfl)
      · rw [if_neg c7] at hE
        refine lv_iload_n hx hb dX4_count_10 rfl (lv_at hl 1 rfl) ?_
        refine lv_aload_n hx hb dX4_count_11 rfl (lv_at hl 0 rfl) ?_
        refine lv_iload_n hx hb dX4_count_12 rfl (lv_at hl 2 rfl) ?_
        obtain ⟨r5, hc, hE⟩ := bd1_some hE
        refine xc_V1 (rest := [.int x1]) (c_X4_holds hO hc) mw_X4_holds km_X4_28 hx hb hml hown hG hI xA_of (wO_at0 hO) rfl rfl ⟨Nat.le_of_ble_eq_true rfl, Nat.le_of_ble_eq_true rfl⟩ rfl hl.1 rfl (Nat.le_of_ble_eq_true rfl) dX4_count_13 (fun H locs hI => ?_)
        obtain ⟨x6, hZ, hE⟩ := bd1_some hE
        have hJ24_6 : ∀ (H : Heap) (locs : List Loc) (ls : Array Slot), xI D (va_A (wO ws k1 cI a f) s.heap.size) s.heap (wO ws k1 cI a f) H locs → lv_has ls 3 [(0, .ref o), (2, .int x2)] → W p l e (rmOf 1 21) s m ([.ref o] : List Value).toArray below meth c H locs 0 0 (xQ D (tyL cI cZ cD) below ([.ref o] : List Value).toArray s (wO ws k1 cI a f) (some (.int r)) (wO ws k1 cI a f)) (F0 m 24 ls [.int x6, .int x1]) := by
          intro H locs ls hI hl
          clear hZ
          refine lv_iadd hx hb dX4_count_24 ?_
          refine lv_istore_n (lv' := [(1, .int (x1 + x6)), (0, .ref o), (2, .int x2)]) hx hb dX4_count_25 rfl hl (by decide) rfl (fun ls hl => ?_)
          refine lv_iinc (v := x2 + 1) (lv' := [(2, .int (x2 + 1)), (1, .int (x1 + x6)), (0, .ref o)]) hx hb dX4_count_26 hl (k := 2) rfl rfl (by decide) rfl (fun ls hl => ?_)
          refine lv_goto (tgt := 4) hx hb dX4_count_29 (by decide) ?_
          exact ih4 _ _ _ _ _ hE hI (lv_sub hl [2, 1, 0] rfl)
        replace hE := hZ
        clear hZ
        refine lv_if_eq (tgt := 23) hx hb dX4_count_16 (by decide) (fun c16 => ?_) (fun c16 => ?_)
        · rw [if_pos c16] at hE
          refine lv_iconst (v := 0) hx hb dX4_count_23 (by decide) ?_
          obtain rfl := sm1 hE
          exact hJ24_6 _ _ _ hI (lv_sub hl [0, 2] rfl)
        · rw [if_neg c16] at hE
          refine lv_iconst (v := 1) hx hb dX4_count_19 (by decide) ?_
          refine lv_goto (tgt := 24) hx hb dX4_count_20 (by decide) ?_
          obtain rfl := sm1 hE
          exact hJ24_6 _ _ _ hI (lv_sub hl [0, 2] rfl)
  exact hL4 _ _ _ _ _ _ hE hI (lv_sub hl [2, 1, 0] rfl)
def X4_reset_L2 : Nat → Int32 → (Nat → Int32) → Option ((Nat → Int32))
  | 0, _, _ => none
  | n2 + 1, x1, mu2 =>
    (if 80 ≤ x1 then some mu2 else (wr 80 mu2 x1 0).bind fun fw7 => X4_reset_L2 n2 (x1 + 1) fw7)
def X4_reset (f : (Nat → Int32)) : Option ((Nat → Int32)) :=
  (X4_reset_L2 fu 0 f : Option (Nat → Int32)).bind fun (mu3 : (Nat → Int32)) => (X4_put mu3 0 4 1 : Option (Nat → Int32)).bind fun (fw5 : (Nat → Int32)) => (X4_put fw5 0 0 (-1) : Option (Nat → Int32)).bind fun (fw6 : (Nat → Int32)) => some fw6
set_option maxHeartbeats 4000000 in
set_option maxRecDepth 100000 in
theorem c_X4_reset {l : Launch} {D : va_G} {cI cZ cD : ClassId} {ws : va_W} {k0 k1 o a : Nat} {f f1 : Nat → Int32} (hO : OK ws k0 k1 o a)  (hE : X4_reset f = some (f1)) : Ct l yX4_reset cX4_reset 2 none (rmOf 1 23) D (tyL cI cZ cD) [.ref o] (wO ws k1 cI a f) none (wO ws k1 cI a f1) := by
  refine Ct.ofW (by decide +kernel) (fun p e s m below meth c hC hI => ?_)
  obtain ⟨hx, hb, hml, hown, hr, hlk, hG⟩ := hC
  have hown : s.vm.findClass RX4 = some m.cls := hown
  have hl := lv_entry ([.ref o] : List Value) (n := 2) (Nat.le_of_ble_eq_true rfl)
  rw [lg_entry_eq]
  generalize (lg_sl ([.ref o] : List Value) ++ List.replicate (2 - (lg_sl ([.ref o] : List Value)).length) Slot.unset).toArray = ls at hl ⊢
  have hl : lv_has ls 2 [(0, .ref o)] := hl
  unfold X4_reset at hE
  refine lv_iconst (v := 0) hx hb dX4_reset_0 (by decide) ?_
  refine lv_istore_n (lv' := [(1, .int 0), (0, .ref o)]) hx hb dX4_reset_1 rfl hl (by decide) rfl (fun ls hl => ?_)
  obtain ⟨mu3, hZ, hE⟩ := bd1_some hE
  have hX2_3 : ∀ (H : Heap) (locs : List Loc) (ls : Array Slot), xI D (va_A (wO ws k1 cI a f) s.heap.size) s.heap (wO ws k1 cI a mu3) H locs → lv_has ls 2 [(0, .ref o)] → W p l e (rmOf 1 23) s m ([.ref o] : List Value).toArray below meth c H locs 0 0 (xQ D (tyL cI cZ cD) below ([.ref o] : List Value).toArray s (wO ws k1 cI a f) none (wO ws k1 cI a f1)) (F0 m 21 ls []) := by
    intro H locs ls hI hl
    clear hZ
    refine lv_aload_n hx hb dX4_reset_21 rfl (lv_at hl 0 rfl) ?_
    refine lv_iconst (v := 0) hx hb dX4_reset_22 (by decide) ?_
    refine lv_iconst (v := 4) hx hb dX4_reset_23 (by decide) ?_
    refine lv_iconst (v := 1) hx hb dX4_reset_24 (by decide) ?_
    obtain ⟨fw5, hc, hE⟩ := bd1_some hE
    refine xc_V0 (rest := []) (c_X4_put hO hc) mw_X4_put km_X4_18 hx hb hml hown hG hI xA_of (wO_at0 hO) rfl rfl ⟨Nat.le_of_ble_eq_true rfl, Nat.le_of_ble_eq_true rfl⟩ rfl hl.1 rfl (Nat.le_of_ble_eq_true rfl) dX4_reset_25 (fun H locs hI => ?_)
    refine lv_aload_n hx hb dX4_reset_28 rfl (lv_at hl 0 rfl) ?_
    refine lv_iconst (v := 0) hx hb dX4_reset_29 (by decide) ?_
    refine lv_iconst (v := 0) hx hb dX4_reset_30 (by decide) ?_
    refine lv_iconst (v := (-1)) hx hb dX4_reset_31 (by decide) ?_
    obtain ⟨fw6, hc, hE⟩ := bd1_some hE
    refine xc_V0 (rest := []) (c_X4_put hO hc) mw_X4_put km_X4_18 hx hb hml hown hG hI xA_of (wO_at0 hO) rfl rfl ⟨Nat.le_of_ble_eq_true rfl, Nat.le_of_ble_eq_true rfl⟩ rfl hl.1 rfl (Nat.le_of_ble_eq_true rfl) dX4_reset_32 (fun H locs hI => ?_)
    obtain rfl := sm1 hE
    exact xr_v hx hb hr hlk hG hI dX4_reset_35
  replace hE := hZ
  clear hZ
  have hL2 : ∀ (n2 : Nat) (x1 : Int32) (mu2 : (Nat → Int32)) (H : Heap) (locs : List Loc) (ls : Array Slot), X4_reset_L2 n2 x1 mu2 = some mu3 → xI D (va_A (wO ws k1 cI a f) s.heap.size) s.heap (wO ws k1 cI a mu2) H locs → lv_has ls 2 [(0, .ref o), (1, .int x1)] → W p l e (rmOf 1 23) s m ([.ref o] : List Value).toArray below meth c H locs 0 0 (xQ D (tyL cI cZ cD) below ([.ref o] : List Value).toArray s (wO ws k1 cI a f) none (wO ws k1 cI a f1)) (F0 m 2 ls []) := by
    intro n2
    induction n2 with
    | zero =>
      intro x1 mu2 H locs ls hE
      exact absurd hE (by simp [X4_reset_L2])
    | succ n2 ih2 =>
      intro x1 mu2 H locs ls hE hI hl
      rw [X4_reset_L2] at hE
      refine lv_iload_n hx hb dX4_reset_2 rfl (lv_at hl 1 rfl) ?_
      refine lv_bipush (v := 80) hx hb dX4_reset_3 (by decide) ?_
      refine lv_icmp_ge (tgt := 21) hx hb dX4_reset_5 (by decide) (fun c5 => ?_) (fun c5 => ?_)
      · rw [if_pos c5] at hE
        obtain rfl := sm1 hE
        exact hX2_3 _ _ _ hI (lv_sub hl [0] rfl)
      · rw [if_neg c5] at hE
        refine lv_aload_n hx hb dX4_reset_8 rfl (lv_at hl 0 rfl) ?_
        refine xo_get hx hb hown hG hI hO kf_X4_9 dX4_reset_9 ?_
        refine lv_iload_n hx hb dX4_reset_12 rfl (lv_at hl 1 rfl) ?_
        refine lv_iconst (v := 0) hx hb dX4_reset_13 (by decide) ?_
        obtain ⟨fw7, hv, hE⟩ := bd1_some hE
        refine xo_iast 0 hx hb hG hI hO rfl hv dX4_reset_14 (fun H locs hI => ?_)
        refine lv_iinc (v := x1 + 1) (lv' := [(1, .int (x1 + 1)), (0, .ref o)]) hx hb dX4_reset_15 hl (k := 1) rfl rfl (by decide) rfl (fun ls hl => ?_)
        refine lv_goto (tgt := 2) hx hb dX4_reset_18 (by decide) ?_
        exact ih2 _ _ _ _ _ hE hI (lv_sub hl [1, 0] rfl)
  exact hL2 _ _ _ _ _ _ hE hI (lv_sub hl [1, 0] rfl)
def X4_countBelow_L4 (p1 : Int32) (f : (Nat → Int32)) : Nat → Int32 → Int32 → Option (Int32)
  | 0, _, _ => none
  | n4 + 1, x1, x2 =>
    (if 16 ≤ x2 then some x1 else (X4_holds f x2 : Option Bool).bind fun (r5 : Bool) => ((if (b2i r5) = 0 then some 0 else (X4_isBelow f x2 p1 : Option Bool).bind fun (r8 : Bool) => (if (b2i r8) = 0 then some 0 else some 1)) : Option Int32).bind fun (x6 : Int32) => X4_countBelow_L4 p1 f n4 (x1 + x6) (x2 + 1))
def X4_countBelow (f : (Nat → Int32)) (p1 : Int32) : Option (Int32) :=
  (X4_countBelow_L4 p1 f fu 0 0 : Option Int32).bind fun (x3 : Int32) => some x3
set_option maxHeartbeats 4000000 in
set_option maxRecDepth 100000 in
theorem c_X4_countBelow {l : Launch} {D : va_G} {cI cZ cD : ClassId} {ws : va_W} {k0 k1 o a : Nat} {f : Nat → Int32} (hO : OK ws k0 k1 o a) {p1 : Int32} {r : Int32}  (hE : X4_countBelow f p1 = some (r)) : Ct l yX4_countBelow cX4_countBelow 4 (some .int) (rmOf 2 46) D (tyL cI cZ cD) [.ref o, .int p1] (wO ws k1 cI a f) (some (.int r)) (wO ws k1 cI a f) := by
  refine Ct.ofW (by decide +kernel) (fun p e s m below meth c hC hI => ?_)
  obtain ⟨hx, hb, hml, hown, hr, hlk, hG⟩ := hC
  have hown : s.vm.findClass RX4 = some m.cls := hown
  have hl := lv_entry ([.ref o, .int p1] : List Value) (n := 4) (Nat.le_of_ble_eq_true rfl)
  rw [lg_entry_eq]
  generalize (lg_sl ([.ref o, .int p1] : List Value) ++ List.replicate (4 - (lg_sl ([.ref o, .int p1] : List Value)).length) Slot.unset).toArray = ls at hl ⊢
  have hl : lv_has ls 4 [(0, .ref o), (1, .int p1)] := hl
  unfold X4_countBelow at hE
  refine lv_iconst (v := 0) hx hb dX4_countBelow_0 (by decide) ?_
  refine lv_istore_n (lv' := [(2, .int 0), (0, .ref o), (1, .int p1)]) hx hb dX4_countBelow_1 rfl hl (by decide) rfl (fun ls hl => ?_)
  refine lv_iconst (v := 0) hx hb dX4_countBelow_2 (by decide) ?_
  refine lv_istore_n (lv' := [(3, .int 0), (2, .int 0), (0, .ref o), (1, .int p1)]) hx hb dX4_countBelow_3 rfl hl (by decide) rfl (fun ls hl => ?_)
  obtain ⟨x3, hZ, hE⟩ := bd1_some hE
  have hX4_3 : ∀ (H : Heap) (locs : List Loc) (ls : Array Slot), xI D (va_A (wO ws k1 cI a f) s.heap.size) s.heap (wO ws k1 cI a f) H locs → lv_has ls 4 [(2, .int x3)] → W p l e (rmOf 2 46) s m ([.ref o, .int p1] : List Value).toArray below meth c H locs 0 0 (xQ D (tyL cI cZ cD) below ([.ref o, .int p1] : List Value).toArray s (wO ws k1 cI a f) (some (.int r)) (wO ws k1 cI a f)) (F0 m 41 ls []) := by
    intro H locs ls hI hl
    clear hZ
    refine lv_iload_n hx hb dX4_countBelow_41 rfl (lv_at hl 0 rfl) ?_
    obtain rfl := sm1 hE
    exact xr_i hx hb hr hlk hG hI dX4_countBelow_42
  replace hE := hZ
  clear hZ
  have hL4 : ∀ (n4 : Nat) (x1 : Int32) (x2 : Int32) (H : Heap) (locs : List Loc) (ls : Array Slot), X4_countBelow_L4 p1 f n4 x1 x2 = some x3 → xI D (va_A (wO ws k1 cI a f) s.heap.size) s.heap (wO ws k1 cI a f) H locs → lv_has ls 4 [(0, .ref o), (1, .int p1), (2, .int x1), (3, .int x2)] → W p l e (rmOf 2 46) s m ([.ref o, .int p1] : List Value).toArray below meth c H locs 0 0 (xQ D (tyL cI cZ cD) below ([.ref o, .int p1] : List Value).toArray s (wO ws k1 cI a f) (some (.int r)) (wO ws k1 cI a f)) (F0 m 4 ls []) := by
    intro n4
    induction n4 with
    | zero =>
      intro x1 x2 H locs ls hE
      exact absurd hE (by simp [X4_countBelow_L4])
    | succ n4 ih4 =>
      intro x1 x2 H locs ls hE hI hl
      rw [X4_countBelow_L4] at hE
      refine lv_iload_n hx hb dX4_countBelow_4 rfl (lv_at hl 3 rfl) ?_
      refine lv_bipush (v := 16) hx hb dX4_countBelow_5 (by decide) ?_
      refine lv_icmp_ge (tgt := 41) hx hb dX4_countBelow_7 (by decide) (fun c7 => ?_) (fun c7 => ?_)
      · rw [if_pos c7] at hE
        obtain rfl := sm1 hE
        exact hX4_3 _ _ _ hI (lv_sub hl [2] rfl)
      · rw [if_neg c7] at hE
        refine lv_iload_n hx hb dX4_countBelow_10 rfl (lv_at hl 2 rfl) ?_
        refine lv_aload_n hx hb dX4_countBelow_11 rfl (lv_at hl 0 rfl) ?_
        refine lv_iload_n hx hb dX4_countBelow_12 rfl (lv_at hl 3 rfl) ?_
        obtain ⟨r5, hc, hE⟩ := bd1_some hE
        refine xc_V1 (rest := [.int x1]) (c_X4_holds hO hc) mw_X4_holds km_X4_28 hx hb hml hown hG hI xA_of (wO_at0 hO) rfl rfl ⟨Nat.le_of_ble_eq_true rfl, Nat.le_of_ble_eq_true rfl⟩ rfl hl.1 rfl (Nat.le_of_ble_eq_true rfl) dX4_countBelow_13 (fun H locs hI => ?_)
        obtain ⟨x6, hZ, hE⟩ := bd1_some hE
        have hJ33_6 : ∀ (H : Heap) (locs : List Loc) (ls : Array Slot), xI D (va_A (wO ws k1 cI a f) s.heap.size) s.heap (wO ws k1 cI a f) H locs → lv_has ls 4 [(0, .ref o), (1, .int p1), (3, .int x2)] → W p l e (rmOf 2 46) s m ([.ref o, .int p1] : List Value).toArray below meth c H locs 0 0 (xQ D (tyL cI cZ cD) below ([.ref o, .int p1] : List Value).toArray s (wO ws k1 cI a f) (some (.int r)) (wO ws k1 cI a f)) (F0 m 33 ls [.int x6, .int x1]) := by
          intro H locs ls hI hl
          clear hZ
          refine lv_iadd hx hb dX4_countBelow_33 ?_
          refine lv_istore_n (lv' := [(2, .int (x1 + x6)), (0, .ref o), (1, .int p1), (3, .int x2)]) hx hb dX4_countBelow_34 rfl hl (by decide) rfl (fun ls hl => ?_)
          refine lv_iinc (v := x2 + 1) (lv' := [(3, .int (x2 + 1)), (2, .int (x1 + x6)), (0, .ref o), (1, .int p1)]) hx hb dX4_countBelow_35 hl (k := 3) rfl rfl (by decide) rfl (fun ls hl => ?_)
          refine lv_goto (tgt := 4) hx hb dX4_countBelow_38 (by decide) ?_
          exact ih4 _ _ _ _ _ hE hI (lv_sub hl [2, 3, 1, 0] rfl)
        replace hE := hZ
        clear hZ
        refine lv_if_eq (tgt := 32) hx hb dX4_countBelow_16 (by decide) (fun c16 => ?_) (fun c16 => ?_)
        · rw [if_pos c16] at hE
          refine lv_iconst (v := 0) hx hb dX4_countBelow_32 (by decide) ?_
          obtain rfl := sm1 hE
          exact hJ33_6 _ _ _ hI (lv_sub hl [0, 1, 3] rfl)
        · rw [if_neg c16] at hE
          refine lv_aload_n hx hb dX4_countBelow_19 rfl (lv_at hl 0 rfl) ?_
          refine lv_iload_n hx hb dX4_countBelow_20 rfl (lv_at hl 3 rfl) ?_
          refine lv_iload_n hx hb dX4_countBelow_21 rfl (lv_at hl 1 rfl) ?_
          obtain ⟨r8, hc, hE⟩ := bd1_some hE
          refine xc_V1 (rest := [.int x1]) (c_X4_isBelow hO hc) mw_X4_isBelow km_X4_40 hx hb hml hown hG hI xA_of (wO_at0 hO) rfl rfl ⟨Nat.le_of_ble_eq_true rfl, Nat.le_of_ble_eq_true rfl⟩ rfl hl.1 rfl (Nat.le_of_ble_eq_true rfl) dX4_countBelow_22 (fun H locs hI => ?_)
          refine lv_if_eq (tgt := 32) hx hb dX4_countBelow_25 (by decide) (fun c25 => ?_) (fun c25 => ?_)
          · rw [if_pos c25] at hE
            refine lv_iconst (v := 0) hx hb dX4_countBelow_32 (by decide) ?_
            obtain rfl := sm1 hE
            exact hJ33_6 _ _ _ hI (lv_sub hl [0, 1, 3] rfl)
          · rw [if_neg c25] at hE
            refine lv_iconst (v := 1) hx hb dX4_countBelow_28 (by decide) ?_
            refine lv_goto (tgt := 33) hx hb dX4_countBelow_29 (by decide) ?_
            obtain rfl := sm1 hE
            exact hJ33_6 _ _ _ hI (lv_sub hl [0, 1, 3] rfl)
  exact hL4 _ _ _ _ _ _ hE hI (lv_sub hl [2, 3, 1, 0] rfl)
def X4_childAt_L2 (p1 : Int32) (p2 : Int32) (f : (Nat → Int32)) : Nat → Int32 → Option (Int32)
  | 0, _ => none
  | n2 + 1, x1 =>
    (if 16 ≤ x1 then some (-1) else (X4_isChild f x1 p1 : Option Bool).bind fun (r2 : Bool) => (if (b2i r2) = 0 then X4_childAt_L2 p1 p2 f n2 (x1 + 1) else (X4_trait f x1 1 : Option Int32).bind fun (r3 : Int32) => (if r3 = p2 then some x1 else X4_childAt_L2 p1 p2 f n2 (x1 + 1))))
def X4_childAt (f : (Nat → Int32)) (p1 : Int32) (p2 : Int32) : Option (Int32) :=
  X4_childAt_L2 p1 p2 f fu 0
set_option maxHeartbeats 4000000 in
set_option maxRecDepth 100000 in
theorem c_X4_childAt {l : Launch} {D : va_G} {cI cZ cD : ClassId} {ws : va_W} {k0 k1 o a : Nat} {f : Nat → Int32} (hO : OK ws k0 k1 o a) {p1 : Int32} {p2 : Int32} {r : Int32}  (hE : X4_childAt f p1 p2 = some (r)) : Ct l yX4_childAt cX4_childAt 4 (some .int) (rmOf 1 22) D (tyL cI cZ cD) [.ref o, .int p1, .int p2] (wO ws k1 cI a f) (some (.int r)) (wO ws k1 cI a f) := by
  refine Ct.ofW (by decide +kernel) (fun p e s m below meth c hC hI => ?_)
  obtain ⟨hx, hb, hml, hown, hr, hlk, hG⟩ := hC
  have hown : s.vm.findClass RX4 = some m.cls := hown
  have hl := lv_entry ([.ref o, .int p1, .int p2] : List Value) (n := 4) (Nat.le_of_ble_eq_true rfl)
  rw [lg_entry_eq]
  generalize (lg_sl ([.ref o, .int p1, .int p2] : List Value) ++ List.replicate (4 - (lg_sl ([.ref o, .int p1, .int p2] : List Value)).length) Slot.unset).toArray = ls at hl ⊢
  have hl : lv_has ls 4 [(0, .ref o), (1, .int p1), (2, .int p2)] := hl
  unfold X4_childAt at hE
  refine lv_iconst (v := 0) hx hb dX4_childAt_0 (by decide) ?_
  refine lv_istore_n (lv' := [(3, .int 0), (0, .ref o), (1, .int p1), (2, .int p2)]) hx hb dX4_childAt_1 rfl hl (by decide) rfl (fun ls hl => ?_)
  have hL2 : ∀ (n2 : Nat) (x1 : Int32) (H : Heap) (locs : List Loc) (ls : Array Slot), X4_childAt_L2 p1 p2 f n2 x1 = some r → xI D (va_A (wO ws k1 cI a f) s.heap.size) s.heap (wO ws k1 cI a f) H locs → lv_has ls 4 [(0, .ref o), (1, .int p1), (2, .int p2), (3, .int x1)] → W p l e (rmOf 1 22) s m ([.ref o, .int p1, .int p2] : List Value).toArray below meth c H locs 0 0 (xQ D (tyL cI cZ cD) below ([.ref o, .int p1, .int p2] : List Value).toArray s (wO ws k1 cI a f) (some (.int r)) (wO ws k1 cI a f)) (F0 m 2 ls []) := by
    intro n2
    induction n2 with
    | zero =>
      intro x1 H locs ls hE
      exact absurd hE (by simp [X4_childAt_L2])
    | succ n2 ih2 =>
      intro x1 H locs ls hE hI hl
      rw [X4_childAt_L2] at hE
      refine lv_iload_n hx hb dX4_childAt_2 rfl (lv_at hl 3 rfl) ?_
      refine lv_bipush (v := 16) hx hb dX4_childAt_3 (by decide) ?_
      refine lv_icmp_ge (tgt := 35) hx hb dX4_childAt_5 (by decide) (fun c5 => ?_) (fun c5 => ?_)
      · rw [if_pos c5] at hE
        refine lv_iconst (v := (-1)) hx hb dX4_childAt_35 (by decide) ?_
        obtain rfl := sm1 hE
        exact xr_i hx hb hr hlk hG hI dX4_childAt_36
      · rw [if_neg c5] at hE
        refine lv_aload_n hx hb dX4_childAt_8 rfl (lv_at hl 0 rfl) ?_
        refine lv_iload_n hx hb dX4_childAt_9 rfl (lv_at hl 3 rfl) ?_
        refine lv_iload_n hx hb dX4_childAt_10 rfl (lv_at hl 1 rfl) ?_
        obtain ⟨r2, hc, hE⟩ := bd1_some hE
        refine xc_V1 (rest := []) (c_X4_isChild hO hc) mw_X4_isChild km_X4_32 hx hb hml hown hG hI xA_of (wO_at0 hO) rfl rfl ⟨Nat.le_of_ble_eq_true rfl, Nat.le_of_ble_eq_true rfl⟩ rfl hl.1 rfl (Nat.le_of_ble_eq_true rfl) dX4_childAt_11 (fun H locs hI => ?_)
        refine lv_if_eq (tgt := 29) hx hb dX4_childAt_14 (by decide) (fun c14 => ?_) (fun c14 => ?_)
        · rw [if_pos c14] at hE
          refine lv_iinc (v := x1 + 1) (lv' := [(3, .int (x1 + 1)), (0, .ref o), (1, .int p1), (2, .int p2)]) hx hb dX4_childAt_29 hl (k := 3) rfl rfl (by decide) rfl (fun ls hl => ?_)
          refine lv_goto (tgt := 2) hx hb dX4_childAt_32 (by decide) ?_
          exact ih2 _ _ _ _ hE hI (lv_sub hl [1, 2, 3, 0] rfl)
        · rw [if_neg c14] at hE
          refine lv_aload_n hx hb dX4_childAt_17 rfl (lv_at hl 0 rfl) ?_
          refine lv_iload_n hx hb dX4_childAt_18 rfl (lv_at hl 3 rfl) ?_
          refine lv_iconst (v := 1) hx hb dX4_childAt_19 (by decide) ?_
          obtain ⟨r3, hc, hE⟩ := bd1_some hE
          refine xc_V1 (rest := []) (c_X4_trait hO hc) mw_X4_trait km_X4_36 hx hb hml hown hG hI xA_of (wO_at0 hO) rfl rfl ⟨Nat.le_of_ble_eq_true rfl, Nat.le_of_ble_eq_true rfl⟩ rfl hl.1 rfl (Nat.le_of_ble_eq_true rfl) dX4_childAt_20 (fun H locs hI => ?_)
          refine lv_iload_n hx hb dX4_childAt_23 rfl (lv_at hl 2 rfl) ?_
          refine lv_icmp_ne (tgt := 29) hx hb dX4_childAt_24 (by decide) (fun c24 => ?_) (fun c24 => ?_)
          · rw [if_neg c24] at hE
            refine lv_iinc (v := x1 + 1) (lv' := [(3, .int (x1 + 1)), (0, .ref o), (1, .int p1), (2, .int p2)]) hx hb dX4_childAt_29 hl (k := 3) rfl rfl (by decide) rfl (fun ls hl => ?_)
            refine lv_goto (tgt := 2) hx hb dX4_childAt_32 (by decide) ?_
            exact ih2 _ _ _ _ hE hI (lv_sub hl [1, 2, 3, 0] rfl)
          · rw [if_pos c24] at hE
            refine lv_iload_n hx hb dX4_childAt_27 rfl (lv_at hl 3 rfl) ?_
            obtain rfl := sm1 hE
            exact xr_i hx hb hr hlk hG hI dX4_childAt_28
  exact hL2 _ _ _ _ _ hE hI (lv_sub hl [1, 2, 3, 0] rfl)
def X4_following_L12 (f : (Nat → Int32)) : Nat → Int32 → Int32 → Int32 → Option (Int32)
  | 0, _, _, _ => none
  | n12 + 1, x2, x3, x4 =>
    (if 16 ≤ x4 then some x2 else (if x2 = (-1) then (if x3 = (-1) then some x2 else (X4_trait f x3 0 : Option Int32).bind fun (r7 : Int32) => (X4_trait f x3 1 : Option Int32).bind fun (r8 : Int32) => (X4_childAt f r7 (r8 + 1) : Option Int32).bind fun (r9 : Int32) => (X4_trait f x3 0 : Option Int32).bind fun (r10 : Int32) => X4_following_L12 f n12 r9 r10 (x4 + 1)) else some x2))
def X4_following (f : (Nat → Int32)) (p1 : Int32) : Option (Int32) :=
  (X4_childAt f p1 0 : Option Int32).bind fun (r1 : Int32) => (X4_following_L12 f fu r1 p1 0 : Option Int32).bind fun (x5 : Int32) => some x5
set_option maxHeartbeats 4000000 in
set_option maxRecDepth 100000 in
theorem c_X4_following {l : Launch} {D : va_G} {cI cZ cD : ClassId} {ws : va_W} {k0 k1 o a : Nat} {f : Nat → Int32} (hO : OK ws k0 k1 o a) {p1 : Int32} {r : Int32}  (hE : X4_following f p1 = some (r)) : Ct l yX4_following cX4_following 5 (some .int) (rmOf 2 45) D (tyL cI cZ cD) [.ref o, .int p1] (wO ws k1 cI a f) (some (.int r)) (wO ws k1 cI a f) := by
  refine Ct.ofW (by decide +kernel) (fun p e s m below meth c hC hI => ?_)
  obtain ⟨hx, hb, hml, hown, hr, hlk, hG⟩ := hC
  have hown : s.vm.findClass RX4 = some m.cls := hown
  have hl := lv_entry ([.ref o, .int p1] : List Value) (n := 5) (Nat.le_of_ble_eq_true rfl)
  rw [lg_entry_eq]
  generalize (lg_sl ([.ref o, .int p1] : List Value) ++ List.replicate (5 - (lg_sl ([.ref o, .int p1] : List Value)).length) Slot.unset).toArray = ls at hl ⊢
  have hl : lv_has ls 5 [(0, .ref o), (1, .int p1)] := hl
  unfold X4_following at hE
  refine lv_aload_n hx hb dX4_following_0 rfl (lv_at hl 0 rfl) ?_
  refine lv_iload_n hx hb dX4_following_1 rfl (lv_at hl 1 rfl) ?_
  refine lv_iconst (v := 0) hx hb dX4_following_2 (by decide) ?_
  obtain ⟨r1, hc, hE⟩ := bd1_some hE
  refine xc_V1 (rest := []) (c_X4_childAt hO hc) mw_X4_childAt km_X4_52 hx hb hml hown hG hI xA_of (wO_at0 hO) rfl rfl ⟨Nat.le_of_ble_eq_true rfl, Nat.le_of_ble_eq_true rfl⟩ rfl hl.1 rfl (Nat.le_of_ble_eq_true rfl) dX4_following_3 (fun H locs hI => ?_)
  refine lv_istore_n (lv' := [(2, .int r1), (0, .ref o), (1, .int p1)]) hx hb dX4_following_6 rfl hl (by decide) rfl (fun ls hl => ?_)
  refine lv_iload_n hx hb dX4_following_7 rfl (lv_at hl 2 rfl) ?_
  refine lv_istore_n (lv' := [(3, .int p1), (2, .int r1), (0, .ref o), (1, .int p1)]) hx hb dX4_following_8 rfl hl (by decide) rfl (fun ls hl => ?_)
  refine lv_iconst (v := 0) hx hb dX4_following_9 (by decide) ?_
  refine lv_istore (lv' := [(4, .int 0), (3, .int p1), (2, .int r1), (0, .ref o), (1, .int p1)]) hx hb dX4_following_10 hl (by decide) rfl (fun ls hl => ?_)
  obtain ⟨x5, hZ, hE⟩ := bd1_some hE
  have hX12_5 : ∀ (H : Heap) (locs : List Loc) (ls : Array Slot), xI D (va_A (wO ws k1 cI a f) s.heap.size) s.heap (wO ws k1 cI a f) H locs → lv_has ls 5 [(2, .int x5)] → W p l e (rmOf 2 45) s m ([.ref o, .int p1] : List Value).toArray below meth c H locs 0 0 (xQ D (tyL cI cZ cD) below ([.ref o, .int p1] : List Value).toArray s (wO ws k1 cI a f) (some (.int r)) (wO ws k1 cI a f)) (F0 m 61 ls []) := by
    intro H locs ls hI hl
    clear hZ
    refine lv_iload_n hx hb dX4_following_61 rfl (lv_at hl 0 rfl) ?_
    obtain rfl := sm1 hE
    exact xr_i hx hb hr hlk hG hI dX4_following_62
  replace hE := hZ
  clear hZ
  have hL12 : ∀ (n12 : Nat) (x2 : Int32) (x3 : Int32) (x4 : Int32) (H : Heap) (locs : List Loc) (ls : Array Slot), X4_following_L12 f n12 x2 x3 x4 = some x5 → xI D (va_A (wO ws k1 cI a f) s.heap.size) s.heap (wO ws k1 cI a f) H locs → lv_has ls 5 [(0, .ref o), (2, .int x2), (3, .int x3), (4, .int x4)] → W p l e (rmOf 2 45) s m ([.ref o, .int p1] : List Value).toArray below meth c H locs 0 0 (xQ D (tyL cI cZ cD) below ([.ref o, .int p1] : List Value).toArray s (wO ws k1 cI a f) (some (.int r)) (wO ws k1 cI a f)) (F0 m 12 ls []) := by
    intro n12
    induction n12 with
    | zero =>
      intro x2 x3 x4 H locs ls hE
      exact absurd hE (by simp [X4_following_L12])
    | succ n12 ih12 =>
      intro x2 x3 x4 H locs ls hE hI hl
      rw [X4_following_L12] at hE
      refine lv_iload hx hb dX4_following_12 (lv_at hl 3 rfl) ?_
      refine lv_bipush (v := 16) hx hb dX4_following_14 (by decide) ?_
      refine lv_icmp_ge (tgt := 61) hx hb dX4_following_16 (by decide) (fun c16 => ?_) (fun c16 => ?_)
      · rw [if_pos c16] at hE
        obtain rfl := sm1 hE
        exact hX12_5 _ _ _ hI (lv_sub hl [1] rfl)
      · rw [if_neg c16] at hE
        refine lv_iload_n hx hb dX4_following_19 rfl (lv_at hl 1 rfl) ?_
        refine lv_iconst (v := (-1)) hx hb dX4_following_20 (by decide) ?_
        refine lv_icmp_ne (tgt := 61) hx hb dX4_following_21 (by decide) (fun c21 => ?_) (fun c21 => ?_)
        · rw [if_neg c21] at hE
          obtain rfl := sm1 hE
          exact hX12_5 _ _ _ hI (lv_sub hl [1] rfl)
        · rw [if_pos c21] at hE
          refine lv_iload_n hx hb dX4_following_24 rfl (lv_at hl 2 rfl) ?_
          refine lv_iconst (v := (-1)) hx hb dX4_following_25 (by decide) ?_
          refine lv_icmp_eq (tgt := 61) hx hb dX4_following_26 (by decide) (fun c26 => ?_) (fun c26 => ?_)
          · rw [if_pos c26] at hE
            obtain rfl := sm1 hE
            exact hX12_5 _ _ _ hI (lv_sub hl [1] rfl)
          · rw [if_neg c26] at hE
            refine lv_aload_n hx hb dX4_following_29 rfl (lv_at hl 0 rfl) ?_
            refine lv_aload_n hx hb dX4_following_30 rfl (lv_at hl 0 rfl) ?_
            refine lv_iload_n hx hb dX4_following_31 rfl (lv_at hl 2 rfl) ?_
            refine lv_iconst (v := 0) hx hb dX4_following_32 (by decide) ?_
            obtain ⟨r7, hc, hE⟩ := bd1_some hE
            refine xc_V1 (rest := [.ref o]) (c_X4_trait hO hc) mw_X4_trait km_X4_36 hx hb hml hown hG hI xA_of (wO_at0 hO) rfl rfl ⟨Nat.le_of_ble_eq_true rfl, Nat.le_of_ble_eq_true rfl⟩ rfl hl.1 rfl (Nat.le_of_ble_eq_true rfl) dX4_following_33 (fun H locs hI => ?_)
            refine lv_aload_n hx hb dX4_following_36 rfl (lv_at hl 0 rfl) ?_
            refine lv_iload_n hx hb dX4_following_37 rfl (lv_at hl 2 rfl) ?_
            refine lv_iconst (v := 1) hx hb dX4_following_38 (by decide) ?_
            obtain ⟨r8, hc, hE⟩ := bd1_some hE
            refine xc_V1 (rest := [.int r7, .ref o]) (c_X4_trait hO hc) mw_X4_trait km_X4_36 hx hb hml hown hG hI xA_of (wO_at0 hO) rfl rfl ⟨Nat.le_of_ble_eq_true rfl, Nat.le_of_ble_eq_true rfl⟩ rfl hl.1 rfl (Nat.le_of_ble_eq_true rfl) dX4_following_39 (fun H locs hI => ?_)
            refine lv_iconst (v := 1) hx hb dX4_following_42 (by decide) ?_
            refine lv_iadd hx hb dX4_following_43 ?_
            obtain ⟨r9, hc, hE⟩ := bd1_some hE
            refine xc_V1 (rest := []) (c_X4_childAt hO hc) mw_X4_childAt km_X4_52 hx hb hml hown hG hI xA_of (wO_at0 hO) rfl rfl ⟨Nat.le_of_ble_eq_true rfl, Nat.le_of_ble_eq_true rfl⟩ rfl hl.1 rfl (Nat.le_of_ble_eq_true rfl) dX4_following_44 (fun H locs hI => ?_)
            refine lv_istore_n (lv' := [(2, .int r9), (0, .ref o), (3, .int x3), (4, .int x4)]) hx hb dX4_following_47 rfl hl (by decide) rfl (fun ls hl => ?_)
            refine lv_aload_n hx hb dX4_following_48 rfl (lv_at hl 1 rfl) ?_
            refine lv_iload_n hx hb dX4_following_49 rfl (lv_at hl 2 rfl) ?_
            refine lv_iconst (v := 0) hx hb dX4_following_50 (by decide) ?_
            obtain ⟨r10, hc, hE⟩ := bd1_some hE
            refine xc_V1 (rest := []) (c_X4_trait hO hc) mw_X4_trait km_X4_36 hx hb hml hown hG hI xA_of (wO_at0 hO) rfl rfl ⟨Nat.le_of_ble_eq_true rfl, Nat.le_of_ble_eq_true rfl⟩ rfl hl.1 rfl (Nat.le_of_ble_eq_true rfl) dX4_following_51 (fun H locs hI => ?_)
            refine lv_istore_n (lv' := [(3, .int r10), (2, .int r9), (0, .ref o), (4, .int x4)]) hx hb dX4_following_54 rfl hl (by decide) rfl (fun ls hl => ?_)
            refine lv_iinc (v := x4 + 1) (lv' := [(4, .int (x4 + 1)), (3, .int r10), (2, .int r9), (0, .ref o)]) hx hb dX4_following_55 hl (k := 3) rfl rfl (by decide) rfl (fun ls hl => ?_)
            refine lv_goto (tgt := 12) hx hb dX4_following_58 (by decide) ?_
            exact ih12 _ _ _ _ _ _ hE hI (lv_sub hl [3, 2, 1, 0] rfl)
  exact hL12 _ _ _ _ _ _ _ hE hI (lv_sub hl [3, 2, 1, 0] rfl)
def X4_depthOf_L12 (f : (Nat → Int32)) : Nat → Int32 → Int32 → Int32 → Option (Int32)
  | 0, _, _, _ => none
  | n12 + 1, x2, x3, x4 =>
    (if 16 ≤ x4 then some x2 else (if x3 = (-1) then some x2 else (X4_trait f x3 0 : Option Int32).bind fun (r7 : Int32) => X4_depthOf_L12 f n12 (x2 + 1) r7 (x4 + 1)))
def X4_depthOf (f : (Nat → Int32)) (p1 : Int32) : Option (Int32) :=
  (X4_trait f p1 0 : Option Int32).bind fun (r1 : Int32) => (X4_depthOf_L12 f fu 0 r1 0 : Option Int32).bind fun (x5 : Int32) => some x5
set_option maxHeartbeats 4000000 in
set_option maxRecDepth 100000 in
theorem c_X4_depthOf {l : Launch} {D : va_G} {cI cZ cD : ClassId} {ws : va_W} {k0 k1 o a : Nat} {f : Nat → Int32} (hO : OK ws k0 k1 o a) {p1 : Int32} {r : Int32}  (hE : X4_depthOf f p1 = some (r)) : Ct l yX4_depthOf cX4_depthOf 5 (some .int) (rmOf 1 22) D (tyL cI cZ cD) [.ref o, .int p1] (wO ws k1 cI a f) (some (.int r)) (wO ws k1 cI a f) := by
  refine Ct.ofW (by decide +kernel) (fun p e s m below meth c hC hI => ?_)
  obtain ⟨hx, hb, hml, hown, hr, hlk, hG⟩ := hC
  have hown : s.vm.findClass RX4 = some m.cls := hown
  have hl := lv_entry ([.ref o, .int p1] : List Value) (n := 5) (Nat.le_of_ble_eq_true rfl)
  rw [lg_entry_eq]
  generalize (lg_sl ([.ref o, .int p1] : List Value) ++ List.replicate (5 - (lg_sl ([.ref o, .int p1] : List Value)).length) Slot.unset).toArray = ls at hl ⊢
  have hl : lv_has ls 5 [(0, .ref o), (1, .int p1)] := hl
  unfold X4_depthOf at hE
  refine lv_iconst (v := 0) hx hb dX4_depthOf_0 (by decide) ?_
  refine lv_istore_n (lv' := [(2, .int 0), (0, .ref o), (1, .int p1)]) hx hb dX4_depthOf_1 rfl hl (by decide) rfl (fun ls hl => ?_)
  refine lv_aload_n hx hb dX4_depthOf_2 rfl (lv_at hl 1 rfl) ?_
  refine lv_iload_n hx hb dX4_depthOf_3 rfl (lv_at hl 2 rfl) ?_
  refine lv_iconst (v := 0) hx hb dX4_depthOf_4 (by decide) ?_
  obtain ⟨r1, hc, hE⟩ := bd1_some hE
  refine xc_V1 (rest := []) (c_X4_trait hO hc) mw_X4_trait km_X4_36 hx hb hml hown hG hI xA_of (wO_at0 hO) rfl rfl ⟨Nat.le_of_ble_eq_true rfl, Nat.le_of_ble_eq_true rfl⟩ rfl hl.1 rfl (Nat.le_of_ble_eq_true rfl) dX4_depthOf_5 (fun H locs hI => ?_)
  refine lv_istore_n (lv' := [(3, .int r1), (2, .int 0), (0, .ref o), (1, .int p1)]) hx hb dX4_depthOf_8 rfl hl (by decide) rfl (fun ls hl => ?_)
  refine lv_iconst (v := 0) hx hb dX4_depthOf_9 (by decide) ?_
  refine lv_istore (lv' := [(4, .int 0), (3, .int r1), (2, .int 0), (0, .ref o), (1, .int p1)]) hx hb dX4_depthOf_10 hl (by decide) rfl (fun ls hl => ?_)
  obtain ⟨x5, hZ, hE⟩ := bd1_some hE
  have hX12_5 : ∀ (H : Heap) (locs : List Loc) (ls : Array Slot), xI D (va_A (wO ws k1 cI a f) s.heap.size) s.heap (wO ws k1 cI a f) H locs → lv_has ls 5 [(2, .int x5)] → W p l e (rmOf 1 22) s m ([.ref o, .int p1] : List Value).toArray below meth c H locs 0 0 (xQ D (tyL cI cZ cD) below ([.ref o, .int p1] : List Value).toArray s (wO ws k1 cI a f) (some (.int r)) (wO ws k1 cI a f)) (F0 m 40 ls []) := by
    intro H locs ls hI hl
    clear hZ
    refine lv_iload_n hx hb dX4_depthOf_40 rfl (lv_at hl 0 rfl) ?_
    obtain rfl := sm1 hE
    exact xr_i hx hb hr hlk hG hI dX4_depthOf_41
  replace hE := hZ
  clear hZ
  have hL12 : ∀ (n12 : Nat) (x2 : Int32) (x3 : Int32) (x4 : Int32) (H : Heap) (locs : List Loc) (ls : Array Slot), X4_depthOf_L12 f n12 x2 x3 x4 = some x5 → xI D (va_A (wO ws k1 cI a f) s.heap.size) s.heap (wO ws k1 cI a f) H locs → lv_has ls 5 [(0, .ref o), (2, .int x2), (3, .int x3), (4, .int x4)] → W p l e (rmOf 1 22) s m ([.ref o, .int p1] : List Value).toArray below meth c H locs 0 0 (xQ D (tyL cI cZ cD) below ([.ref o, .int p1] : List Value).toArray s (wO ws k1 cI a f) (some (.int r)) (wO ws k1 cI a f)) (F0 m 12 ls []) := by
    intro n12
    induction n12 with
    | zero =>
      intro x2 x3 x4 H locs ls hE
      exact absurd hE (by simp [X4_depthOf_L12])
    | succ n12 ih12 =>
      intro x2 x3 x4 H locs ls hE hI hl
      rw [X4_depthOf_L12] at hE
      refine lv_iload hx hb dX4_depthOf_12 (lv_at hl 3 rfl) ?_
      refine lv_bipush (v := 16) hx hb dX4_depthOf_14 (by decide) ?_
      refine lv_icmp_ge (tgt := 40) hx hb dX4_depthOf_16 (by decide) (fun c16 => ?_) (fun c16 => ?_)
      · rw [if_pos c16] at hE
        obtain rfl := sm1 hE
        exact hX12_5 _ _ _ hI (lv_sub hl [1] rfl)
      · rw [if_neg c16] at hE
        refine lv_iload_n hx hb dX4_depthOf_19 rfl (lv_at hl 2 rfl) ?_
        refine lv_iconst (v := (-1)) hx hb dX4_depthOf_20 (by decide) ?_
        refine lv_icmp_eq (tgt := 40) hx hb dX4_depthOf_21 (by decide) (fun c21 => ?_) (fun c21 => ?_)
        · rw [if_pos c21] at hE
          obtain rfl := sm1 hE
          exact hX12_5 _ _ _ hI (lv_sub hl [1] rfl)
        · rw [if_neg c21] at hE
          refine lv_iinc (v := x2 + 1) (lv' := [(2, .int (x2 + 1)), (0, .ref o), (3, .int x3), (4, .int x4)]) hx hb dX4_depthOf_24 hl (k := 1) rfl rfl (by decide) rfl (fun ls hl => ?_)
          refine lv_aload_n hx hb dX4_depthOf_27 rfl (lv_at hl 1 rfl) ?_
          refine lv_iload_n hx hb dX4_depthOf_28 rfl (lv_at hl 2 rfl) ?_
          refine lv_iconst (v := 0) hx hb dX4_depthOf_29 (by decide) ?_
          obtain ⟨r7, hc, hE⟩ := bd1_some hE
          refine xc_V1 (rest := []) (c_X4_trait hO hc) mw_X4_trait km_X4_36 hx hb hml hown hG hI xA_of (wO_at0 hO) rfl rfl ⟨Nat.le_of_ble_eq_true rfl, Nat.le_of_ble_eq_true rfl⟩ rfl hl.1 rfl (Nat.le_of_ble_eq_true rfl) dX4_depthOf_30 (fun H locs hI => ?_)
          refine lv_istore_n (lv' := [(3, .int r7), (2, .int (x2 + 1)), (0, .ref o), (4, .int x4)]) hx hb dX4_depthOf_33 rfl hl (by decide) rfl (fun ls hl => ?_)
          refine lv_iinc (v := x4 + 1) (lv' := [(4, .int (x4 + 1)), (3, .int r7), (2, .int (x2 + 1)), (0, .ref o)]) hx hb dX4_depthOf_34 hl (k := 3) rfl rfl (by decide) rfl (fun ls hl => ?_)
          refine lv_goto (tgt := 12) hx hb dX4_depthOf_37 (by decide) ?_
          exact ih12 _ _ _ _ _ _ hE hI (lv_sub hl [3, 2, 1, 0] rfl)
  exact hL12 _ _ _ _ _ _ _ hE hI (lv_sub hl [3, 2, 1, 0] rfl)
def X4_depth_L4 (f : (Nat → Int32)) : Nat → Int32 → Int32 → Option (Int32)
  | 0, _, _ => none
  | n4 + 1, x1, x2 =>
    (if 16 ≤ x2 then some x1 else (X4_depthOf f x2 : Option Int32).bind fun (r5 : Int32) => X4_depth_L4 f n4 (if x1 < r5 then r5 else x1) (x2 + 1))
def X4_depth (f : (Nat → Int32)) : Option (Int32) :=
  (X4_depth_L4 f fu 0 0 : Option Int32).bind fun (x3 : Int32) => some x3
set_option maxHeartbeats 4000000 in
set_option maxRecDepth 100000 in
theorem c_X4_depth {l : Launch} {D : va_G} {cI cZ cD : ClassId} {ws : va_W} {k0 k1 o a : Nat} {f : Nat → Int32} (hO : OK ws k0 k1 o a) {r : Int32}  (hE : X4_depth f = some (r)) : Ct l yX4_depth cX4_depth 3 (some .int) (rmOf 2 46) D (tyL cI cZ cD) [.ref o] (wO ws k1 cI a f) (some (.int r)) (wO ws k1 cI a f) := by
  refine Ct.ofW (by decide +kernel) (fun p e s m below meth c hC hI => ?_)
  obtain ⟨hx, hb, hml, hown, hr, hlk, hG⟩ := hC
  have hown : s.vm.findClass RX4 = some m.cls := hown
  have hl := lv_entry ([.ref o] : List Value) (n := 3) (Nat.le_of_ble_eq_true rfl)
  rw [lg_entry_eq]
  generalize (lg_sl ([.ref o] : List Value) ++ List.replicate (3 - (lg_sl ([.ref o] : List Value)).length) Slot.unset).toArray = ls at hl ⊢
  have hl : lv_has ls 3 [(0, .ref o)] := hl
  unfold X4_depth at hE
  refine lv_iconst (v := 0) hx hb dX4_depth_0 (by decide) ?_
  refine lv_istore_n (lv' := [(1, .int 0), (0, .ref o)]) hx hb dX4_depth_1 rfl hl (by decide) rfl (fun ls hl => ?_)
  refine lv_iconst (v := 0) hx hb dX4_depth_2 (by decide) ?_
  refine lv_istore_n (lv' := [(2, .int 0), (1, .int 0), (0, .ref o)]) hx hb dX4_depth_3 rfl hl (by decide) rfl (fun ls hl => ?_)
  obtain ⟨x3, hZ, hE⟩ := bd1_some hE
  have hX4_3 : ∀ (H : Heap) (locs : List Loc) (ls : Array Slot), xI D (va_A (wO ws k1 cI a f) s.heap.size) s.heap (wO ws k1 cI a f) H locs → lv_has ls 3 [(1, .int x3)] → W p l e (rmOf 2 46) s m ([.ref o] : List Value).toArray below meth c H locs 0 0 (xQ D (tyL cI cZ cD) below ([.ref o] : List Value).toArray s (wO ws k1 cI a f) (some (.int r)) (wO ws k1 cI a f)) (F0 m 26 ls []) := by
    intro H locs ls hI hl
    clear hZ
    refine lv_iload_n hx hb dX4_depth_26 rfl (lv_at hl 0 rfl) ?_
    obtain rfl := sm1 hE
    exact xr_i hx hb hr hlk hG hI dX4_depth_27
  replace hE := hZ
  clear hZ
  have hL4 : ∀ (n4 : Nat) (x1 : Int32) (x2 : Int32) (H : Heap) (locs : List Loc) (ls : Array Slot), X4_depth_L4 f n4 x1 x2 = some x3 → xI D (va_A (wO ws k1 cI a f) s.heap.size) s.heap (wO ws k1 cI a f) H locs → lv_has ls 3 [(0, .ref o), (1, .int x1), (2, .int x2)] → W p l e (rmOf 2 46) s m ([.ref o] : List Value).toArray below meth c H locs 0 0 (xQ D (tyL cI cZ cD) below ([.ref o] : List Value).toArray s (wO ws k1 cI a f) (some (.int r)) (wO ws k1 cI a f)) (F0 m 4 ls []) := by
    intro n4
    induction n4 with
    | zero =>
      intro x1 x2 H locs ls hE
      exact absurd hE (by simp [X4_depth_L4])
    | succ n4 ih4 =>
      intro x1 x2 H locs ls hE hI hl
      rw [X4_depth_L4] at hE
      refine lv_iload_n hx hb dX4_depth_4 rfl (lv_at hl 2 rfl) ?_
      refine lv_bipush (v := 16) hx hb dX4_depth_5 (by decide) ?_
      refine lv_icmp_ge (tgt := 26) hx hb dX4_depth_7 (by decide) (fun c7 => ?_) (fun c7 => ?_)
      · rw [if_pos c7] at hE
        obtain rfl := sm1 hE
        exact hX4_3 _ _ _ hI (lv_sub hl [1] rfl)
      · rw [if_neg c7] at hE
        refine lv_iload_n hx hb dX4_depth_10 rfl (lv_at hl 1 rfl) ?_
        refine lv_aload_n hx hb dX4_depth_11 rfl (lv_at hl 0 rfl) ?_
        refine lv_iload_n hx hb dX4_depth_12 rfl (lv_at hl 2 rfl) ?_
        obtain ⟨r5, hc, hE⟩ := bd1_some hE
        refine xc_V1 (rest := [.int x1]) (c_X4_depthOf hO hc) mw_X4_depthOf km_X4_43 hx hb hml hown hG hI xA_of (wO_at0 hO) rfl rfl ⟨Nat.le_of_ble_eq_true rfl, Nat.le_of_ble_eq_true rfl⟩ rfl hl.1 rfl (Nat.le_of_ble_eq_true rfl) dX4_depth_13 (fun H locs hI => ?_)
        refine va_mmax hx hb (hml.trans hl.1.symm) hown (hG.2 _ km_X4_47 _) (hG.2 _ k_maxs _) (hG.2 _ ki_J9 _) (hG.2 _ k_maxc _) (Nat.le_of_ble_eq_true rfl) (Nat.le_of_ble_eq_true rfl) (Nat.zero_le _) (Nat.zero_le _) dX4_depth_16 ?_
        refine lv_istore_n (lv' := [(1, .int (if x1 < r5 then r5 else x1)), (0, .ref o), (2, .int x2)]) hx hb dX4_depth_19 rfl hl (by decide) rfl (fun ls hl => ?_)
        refine lv_iinc (v := x2 + 1) (lv' := [(2, .int (x2 + 1)), (1, .int (if x1 < r5 then r5 else x1)), (0, .ref o)]) hx hb dX4_depth_20 hl (k := 2) rfl rfl (by decide) rfl (fun ls hl => ?_)
        refine lv_goto (tgt := 4) hx hb dX4_depth_23 (by decide) ?_
        exact ih4 _ _ _ _ _ hE hI (lv_sub hl [2, 1, 0] rfl)
  exact hL4 _ _ _ _ _ _ hE hI (lv_sub hl [2, 1, 0] rfl)
def X4_isSame_L2 (p0 : Nat) (p1 : Int32) (p2 : Nat) (u : Mem) : Nat → Int32 → Option (Bool)
  | 0, _ => none
  | n2 + 1, x1 =>
    (if 3 < x1 then some true else (X4_trait (u (25 + p0)) p1 x1 : Option Int32).bind fun (r2 : Int32) => (X4_trait (u (25 + p2)) p1 x1 : Option Int32).bind fun (r3 : Int32) => (if r2 = r3 then X4_isSame_L2 p0 p1 p2 u n2 (x1 + 1) else some false))
def X4_isSame (u : Mem) (p0 : Nat) (p1 : Int32) (p2 : Nat) : Option (Bool) :=
  X4_isSame_L2 p0 p1 p2 u fu 0
set_option maxHeartbeats 4000000 in
set_option maxRecDepth 100000 in
theorem c_X4_isSame {l : Launch} {D : va_G} {A : Nat → Nat} {cI cZ cD : ClassId} {u : Mem} {p0 : Nat} {p1 : Int32} {p2 : Nat} {r : Bool} (hp0 : p0 < 25) (hp2 : p2 < 25) (hE : X4_isSame u p0 p1 p2 = some (r)) : Ct l yX4_isSame cX4_isSame 4 (some .boolean) (rmOf 1 22) D (tyL cI cZ cD) [.ref (A p0), .int p1, .ref (A p2)] (wX A cI cZ cD u) (some (.int (b2i r))) (wX A cI cZ cD u) := by
  refine Ct.ofW (by decide +kernel) (fun p e s m below meth c hC hI => ?_)
  obtain ⟨hx, hb, hml, hown, hr, hlk, hG⟩ := hC
  have hown : s.vm.findClass RX4 = some m.cls := hown
  have hl := lv_entry ([.ref (A p0), .int p1, .ref (A p2)] : List Value) (n := 4) (Nat.le_of_ble_eq_true rfl)
  rw [lg_entry_eq]
  generalize (lg_sl ([.ref (A p0), .int p1, .ref (A p2)] : List Value) ++ List.replicate (4 - (lg_sl ([.ref (A p0), .int p1, .ref (A p2)] : List Value)).length) Slot.unset).toArray = ls at hl ⊢
  have hl : lv_has ls 4 [(0, .ref (A p0)), (1, .int p1), (2, .ref (A p2))] := hl
  unfold X4_isSame at hE
  refine lv_iconst (v := 0) hx hb dX4_isSame_0 (by decide) ?_
  refine lv_istore_n (lv' := [(3, .int 0), (0, .ref (A p0)), (1, .int p1), (2, .ref (A p2))]) hx hb dX4_isSame_1 rfl hl (by decide) rfl (fun ls hl => ?_)
  have hL2 : ∀ (n2 : Nat) (x1 : Int32) (H : Heap) (locs : List Loc) (ls : Array Slot), X4_isSame_L2 p0 p1 p2 u n2 x1 = some r → xI D (va_A (wX A cI cZ cD u) s.heap.size) s.heap (wX A cI cZ cD u) H locs → lv_has ls 4 [(0, .ref (A p0)), (1, .int p1), (2, .ref (A p2)), (3, .int x1)] → W p l e (rmOf 1 22) s m ([.ref (A p0), .int p1, .ref (A p2)] : List Value).toArray below meth c H locs 0 0 (xQ D (tyL cI cZ cD) below ([.ref (A p0), .int p1, .ref (A p2)] : List Value).toArray s (wX A cI cZ cD u) (some (.int (b2i r))) (wX A cI cZ cD u)) (F0 m 2 ls []) := by
    intro n2
    induction n2 with
    | zero =>
      intro x1 H locs ls hE
      exact absurd hE (by simp [X4_isSame_L2])
    | succ n2 ih2 =>
      intro x1 H locs ls hE hI hl
      rw [X4_isSame_L2] at hE
      refine lv_iload_n hx hb dX4_isSame_2 rfl (lv_at hl 3 rfl) ?_
      refine lv_iconst (v := 3) hx hb dX4_isSame_3 (by decide) ?_
      refine lv_icmp_gt (tgt := 30) hx hb dX4_isSame_4 (by decide) (fun c4 => ?_) (fun c4 => ?_)
      · rw [if_pos c4] at hE
        refine lv_iconst (v := 1) hx hb dX4_isSame_30 (by decide) ?_
        obtain rfl := sm1 hE
        exact xr_z rfl hx hb hr hlk hG hI dX4_isSame_31
      · rw [if_neg c4] at hE
        refine lv_aload_n hx hb dX4_isSame_7 rfl (lv_at hl 0 rfl) ?_
        refine lv_iload_n hx hb dX4_isSame_8 rfl (lv_at hl 1 rfl) ?_
        refine lv_iload_n hx hb dX4_isSame_9 rfl (lv_at hl 3 rfl) ?_
        obtain ⟨r2, hc, hE⟩ := bd1_some hE
        refine xc_V1 (rest := []) (Ct.toXr (j := p0) (by omega) (c_X4_trait (OKX (j := p0) (by omega)) hc)) mw_X4_trait km_X4_36 hx hb hml hown hG hI xA_of (wG_atE (by omega) (eX_O (j := p0) (by omega))) rfl rfl ⟨Nat.le_of_ble_eq_true rfl, Nat.le_of_ble_eq_true rfl⟩ rfl hl.1 rfl (Nat.le_of_ble_eq_true rfl) dX4_isSame_10 (fun H locs hI => ?_)
        refine lv_aload_n hx hb dX4_isSame_13 rfl (lv_at hl 2 rfl) ?_
        refine lv_iload_n hx hb dX4_isSame_14 rfl (lv_at hl 1 rfl) ?_
        refine lv_iload_n hx hb dX4_isSame_15 rfl (lv_at hl 3 rfl) ?_
        obtain ⟨r3, hc, hE⟩ := bd1_some hE
        refine xc_V1 (rest := [.int r2]) (Ct.toXr (j := p2) (by omega) (c_X4_trait (OKX (j := p2) (by omega)) hc)) mw_X4_trait km_X4_36 hx hb hml hown hG hI xA_of (wG_atE (by omega) (eX_O (j := p2) (by omega))) rfl rfl ⟨Nat.le_of_ble_eq_true rfl, Nat.le_of_ble_eq_true rfl⟩ rfl hl.1 rfl (Nat.le_of_ble_eq_true rfl) dX4_isSame_16 (fun H locs hI => ?_)
        refine lv_icmp_eq (tgt := 24) hx hb dX4_isSame_19 (by decide) (fun c19 => ?_) (fun c19 => ?_)
        · rw [if_pos c19] at hE
          refine lv_iinc (v := x1 + 1) (lv' := [(3, .int (x1 + 1)), (0, .ref (A p0)), (1, .int p1), (2, .ref (A p2))]) hx hb dX4_isSame_24 hl (k := 3) rfl rfl (by decide) rfl (fun ls hl => ?_)
          refine lv_goto (tgt := 2) hx hb dX4_isSame_27 (by decide) ?_
          exact ih2 _ _ _ _ hE hI (lv_sub hl [1, 2, 3, 0] rfl)
        · rw [if_neg c19] at hE
          refine lv_iconst (v := 0) hx hb dX4_isSame_22 (by decide) ?_
          obtain rfl := sm1 hE
          exact xr_z rfl hx hb hr hlk hG hI dX4_isSame_23
  exact hL2 _ _ _ _ _ hE hI (lv_sub hl [1, 2, 3, 0] rfl)
def X4_countShared_L4 (p0 : Nat) (p1 : Nat) (u : Mem) : Nat → Int32 → Int32 → Option (Int32)
  | 0, _, _ => none
  | n4 + 1, x1, x2 =>
    (if 16 ≤ x2 then some x1 else (X4_holds (u (25 + p0)) x2 : Option Bool).bind fun (r5 : Bool) => ((if (b2i r5) = 0 then some 0 else (X4_holds (u (25 + p1)) x2 : Option Bool).bind fun (r8 : Bool) => (if (b2i r8) = 0 then some 0 else (X4_isSame u p0 x2 p1 : Option Bool).bind fun (r9 : Bool) => (if (b2i r9) = 0 then some 0 else some 1))) : Option Int32).bind fun (x6 : Int32) => X4_countShared_L4 p0 p1 u n4 (x1 + x6) (x2 + 1))
def X4_countShared (u : Mem) (p0 : Nat) (p1 : Nat) : Option (Int32) :=
  (X4_countShared_L4 p0 p1 u fu 0 0 : Option Int32).bind fun (x3 : Int32) => some x3
set_option maxHeartbeats 4000000 in
set_option maxRecDepth 100000 in
theorem c_X4_countShared {l : Launch} {D : va_G} {A : Nat → Nat} {cI cZ cD : ClassId} {u : Mem} {p0 : Nat} {p1 : Nat} {r : Int32} (hp0 : p0 < 25) (hp1 : p1 < 25) (hE : X4_countShared u p0 p1 = some (r)) : Ct l yX4_countShared cX4_countShared 4 (some .int) (rmOf 2 45) D (tyL cI cZ cD) [.ref (A p0), .ref (A p1)] (wX A cI cZ cD u) (some (.int r)) (wX A cI cZ cD u) := by
  refine Ct.ofW (by decide +kernel) (fun p e s m below meth c hC hI => ?_)
  obtain ⟨hx, hb, hml, hown, hr, hlk, hG⟩ := hC
  have hown : s.vm.findClass RX4 = some m.cls := hown
  have hl := lv_entry ([.ref (A p0), .ref (A p1)] : List Value) (n := 4) (Nat.le_of_ble_eq_true rfl)
  rw [lg_entry_eq]
  generalize (lg_sl ([.ref (A p0), .ref (A p1)] : List Value) ++ List.replicate (4 - (lg_sl ([.ref (A p0), .ref (A p1)] : List Value)).length) Slot.unset).toArray = ls at hl ⊢
  have hl : lv_has ls 4 [(0, .ref (A p0)), (1, .ref (A p1))] := hl
  unfold X4_countShared at hE
  refine lv_iconst (v := 0) hx hb dX4_countShared_0 (by decide) ?_
  refine lv_istore_n (lv' := [(2, .int 0), (0, .ref (A p0)), (1, .ref (A p1))]) hx hb dX4_countShared_1 rfl hl (by decide) rfl (fun ls hl => ?_)
  refine lv_iconst (v := 0) hx hb dX4_countShared_2 (by decide) ?_
  refine lv_istore_n (lv' := [(3, .int 0), (2, .int 0), (0, .ref (A p0)), (1, .ref (A p1))]) hx hb dX4_countShared_3 rfl hl (by decide) rfl (fun ls hl => ?_)
  obtain ⟨x3, hZ, hE⟩ := bd1_some hE
  have hX4_3 : ∀ (H : Heap) (locs : List Loc) (ls : Array Slot), xI D (va_A (wX A cI cZ cD u) s.heap.size) s.heap (wX A cI cZ cD u) H locs → lv_has ls 4 [(2, .int x3)] → W p l e (rmOf 2 45) s m ([.ref (A p0), .ref (A p1)] : List Value).toArray below meth c H locs 0 0 (xQ D (tyL cI cZ cD) below ([.ref (A p0), .ref (A p1)] : List Value).toArray s (wX A cI cZ cD u) (some (.int r)) (wX A cI cZ cD u)) (F0 m 49 ls []) := by
    intro H locs ls hI hl
    clear hZ
    refine lv_iload_n hx hb dX4_countShared_49 rfl (lv_at hl 0 rfl) ?_
    obtain rfl := sm1 hE
    exact xr_i hx hb hr hlk hG hI dX4_countShared_50
  replace hE := hZ
  clear hZ
  have hL4 : ∀ (n4 : Nat) (x1 : Int32) (x2 : Int32) (H : Heap) (locs : List Loc) (ls : Array Slot), X4_countShared_L4 p0 p1 u n4 x1 x2 = some x3 → xI D (va_A (wX A cI cZ cD u) s.heap.size) s.heap (wX A cI cZ cD u) H locs → lv_has ls 4 [(0, .ref (A p0)), (1, .ref (A p1)), (2, .int x1), (3, .int x2)] → W p l e (rmOf 2 45) s m ([.ref (A p0), .ref (A p1)] : List Value).toArray below meth c H locs 0 0 (xQ D (tyL cI cZ cD) below ([.ref (A p0), .ref (A p1)] : List Value).toArray s (wX A cI cZ cD u) (some (.int r)) (wX A cI cZ cD u)) (F0 m 4 ls []) := by
    intro n4
    induction n4 with
    | zero =>
      intro x1 x2 H locs ls hE
      exact absurd hE (by simp [X4_countShared_L4])
    | succ n4 ih4 =>
      intro x1 x2 H locs ls hE hI hl
      rw [X4_countShared_L4] at hE
      refine lv_iload_n hx hb dX4_countShared_4 rfl (lv_at hl 3 rfl) ?_
      refine lv_bipush (v := 16) hx hb dX4_countShared_5 (by decide) ?_
      refine lv_icmp_ge (tgt := 49) hx hb dX4_countShared_7 (by decide) (fun c7 => ?_) (fun c7 => ?_)
      · rw [if_pos c7] at hE
        obtain rfl := sm1 hE
        exact hX4_3 _ _ _ hI (lv_sub hl [2] rfl)
      · rw [if_neg c7] at hE
        refine lv_iload_n hx hb dX4_countShared_10 rfl (lv_at hl 2 rfl) ?_
        refine lv_aload_n hx hb dX4_countShared_11 rfl (lv_at hl 0 rfl) ?_
        refine lv_iload_n hx hb dX4_countShared_12 rfl (lv_at hl 3 rfl) ?_
        obtain ⟨r5, hc, hE⟩ := bd1_some hE
        refine xc_V1 (rest := [.int x1]) (Ct.toXr (j := p0) (by omega) (c_X4_holds (OKX (j := p0) (by omega)) hc)) mw_X4_holds km_X4_28 hx hb hml hown hG hI xA_of (wG_atE (by omega) (eX_O (j := p0) (by omega))) rfl rfl ⟨Nat.le_of_ble_eq_true rfl, Nat.le_of_ble_eq_true rfl⟩ rfl hl.1 rfl (Nat.le_of_ble_eq_true rfl) dX4_countShared_13 (fun H locs hI => ?_)
        obtain ⟨x6, hZ, hE⟩ := bd1_some hE
        have hJ41_6 : ∀ (H : Heap) (locs : List Loc) (ls : Array Slot), xI D (va_A (wX A cI cZ cD u) s.heap.size) s.heap (wX A cI cZ cD u) H locs → lv_has ls 4 [(0, .ref (A p0)), (1, .ref (A p1)), (3, .int x2)] → W p l e (rmOf 2 45) s m ([.ref (A p0), .ref (A p1)] : List Value).toArray below meth c H locs 0 0 (xQ D (tyL cI cZ cD) below ([.ref (A p0), .ref (A p1)] : List Value).toArray s (wX A cI cZ cD u) (some (.int r)) (wX A cI cZ cD u)) (F0 m 41 ls [.int x6, .int x1]) := by
          intro H locs ls hI hl
          clear hZ
          refine lv_iadd hx hb dX4_countShared_41 ?_
          refine lv_istore_n (lv' := [(2, .int (x1 + x6)), (0, .ref (A p0)), (1, .ref (A p1)), (3, .int x2)]) hx hb dX4_countShared_42 rfl hl (by decide) rfl (fun ls hl => ?_)
          refine lv_iinc (v := x2 + 1) (lv' := [(3, .int (x2 + 1)), (2, .int (x1 + x6)), (0, .ref (A p0)), (1, .ref (A p1))]) hx hb dX4_countShared_43 hl (k := 3) rfl rfl (by decide) rfl (fun ls hl => ?_)
          refine lv_goto (tgt := 4) hx hb dX4_countShared_46 (by decide) ?_
          exact ih4 _ _ _ _ _ hE hI (lv_sub hl [2, 3, 1, 0] rfl)
        replace hE := hZ
        clear hZ
        refine lv_if_eq (tgt := 40) hx hb dX4_countShared_16 (by decide) (fun c16 => ?_) (fun c16 => ?_)
        · rw [if_pos c16] at hE
          refine lv_iconst (v := 0) hx hb dX4_countShared_40 (by decide) ?_
          obtain rfl := sm1 hE
          exact hJ41_6 _ _ _ hI (lv_sub hl [0, 1, 3] rfl)
        · rw [if_neg c16] at hE
          refine lv_aload_n hx hb dX4_countShared_19 rfl (lv_at hl 1 rfl) ?_
          refine lv_iload_n hx hb dX4_countShared_20 rfl (lv_at hl 3 rfl) ?_
          obtain ⟨r8, hc, hE⟩ := bd1_some hE
          refine xc_V1 (rest := [.int x1]) (Ct.toXr (j := p1) (by omega) (c_X4_holds (OKX (j := p1) (by omega)) hc)) mw_X4_holds km_X4_28 hx hb hml hown hG hI xA_of (wG_atE (by omega) (eX_O (j := p1) (by omega))) rfl rfl ⟨Nat.le_of_ble_eq_true rfl, Nat.le_of_ble_eq_true rfl⟩ rfl hl.1 rfl (Nat.le_of_ble_eq_true rfl) dX4_countShared_21 (fun H locs hI => ?_)
          refine lv_if_eq (tgt := 40) hx hb dX4_countShared_24 (by decide) (fun c24 => ?_) (fun c24 => ?_)
          · rw [if_pos c24] at hE
            refine lv_iconst (v := 0) hx hb dX4_countShared_40 (by decide) ?_
            obtain rfl := sm1 hE
            exact hJ41_6 _ _ _ hI (lv_sub hl [0, 1, 3] rfl)
          · rw [if_neg c24] at hE
            refine lv_aload_n hx hb dX4_countShared_27 rfl (lv_at hl 0 rfl) ?_
            refine lv_iload_n hx hb dX4_countShared_28 rfl (lv_at hl 3 rfl) ?_
            refine lv_aload_n hx hb dX4_countShared_29 rfl (lv_at hl 1 rfl) ?_
            obtain ⟨r9, hc, hE⟩ := bd1_some hE
            refine xc_V1 (rest := [.int x1]) (c_X4_isSame (by omega) (by omega) hc) mw_X4_isSame km_X4_55 hx hb hml hown hG hI xA_of (wG_atE (by omega) (eX_O (j := p0) (by omega))) rfl rfl ⟨Nat.le_of_ble_eq_true rfl, Nat.le_of_ble_eq_true rfl⟩ rfl hl.1 rfl (Nat.le_of_ble_eq_true rfl) dX4_countShared_30 (fun H locs hI => ?_)
            refine lv_if_eq (tgt := 40) hx hb dX4_countShared_33 (by decide) (fun c33 => ?_) (fun c33 => ?_)
            · rw [if_pos c33] at hE
              refine lv_iconst (v := 0) hx hb dX4_countShared_40 (by decide) ?_
              obtain rfl := sm1 hE
              exact hJ41_6 _ _ _ hI (lv_sub hl [0, 1, 3] rfl)
            · rw [if_neg c33] at hE
              refine lv_iconst (v := 1) hx hb dX4_countShared_36 (by decide) ?_
              refine lv_goto (tgt := 41) hx hb dX4_countShared_37 (by decide) ?_
              obtain rfl := sm1 hE
              exact hJ41_6 _ _ _ hI (lv_sub hl [0, 1, 3] rfl)
  exact hL4 _ _ _ _ _ _ hE hI (lv_sub hl [2, 3, 1, 0] rfl)
