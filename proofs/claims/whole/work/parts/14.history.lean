def X1_slot (u : Mem) (p1 : Int32) : Option (Option Nat) :=
  (if p1 < 0 then some none else (if 5 ≤ p1 then some none else (ldA 5 p1).bind fun k1 => some (some (2 + k1))))
set_option maxHeartbeats 4000000 in
set_option maxRecDepth 100000 in
theorem c_X1_slot {l : Launch} {D : va_G} {A : Nat → Nat} {cI cZ cD : ClassId} {u : Mem} {p1 : Int32} {r : Option Nat}  (hE : X1_slot u p1 = some (r)) : Ct l yX1_slot cX1_slot 2 (some (.object "MergedOutline$Desk")) (rmOf 0 0) D (tyL cI cZ cD) [.ref (A 59), .int p1] (wX A cI cZ cD u) (some (vD A r)) (wX A cI cZ cD u) := by
  refine Ct.ofW (by decide +kernel) (fun p e s m below meth c hC hI => ?_)
  obtain ⟨hx, hb, hml, hown, hr, hlk, hG⟩ := hC
  have hown : s.vm.findClass RX1 = some m.cls := hown
  have hl := lv_entry ([.ref (A 59), .int p1] : List Value) (n := 2) (Nat.le_of_ble_eq_true rfl)
  rw [lg_entry_eq]
  generalize (lg_sl ([.ref (A 59), .int p1] : List Value) ++ List.replicate (2 - (lg_sl ([.ref (A 59), .int p1] : List Value)).length) Slot.unset).toArray = ls at hl ⊢
  have hl : lv_has ls 2 [(0, .ref (A 59)), (1, .int p1)] := hl
  unfold X1_slot at hE
  refine lv_iload_n hx hb dX1_slot_0 rfl (lv_at hl 1 rfl) ?_
  refine lv_if_lt (tgt := 18) hx hb dX1_slot_1 (by decide) (fun c1 => ?_) (fun c1 => ?_)
  · rw [if_pos c1] at hE
    refine lv_null hx hb dX1_slot_18 ?_
    obtain rfl := sm1 hE
    exact xr_a hx hb hr hlk (Or.inl rfl) hG hI dX1_slot_19
  · rw [if_neg c1] at hE
    refine lv_iload_n hx hb dX1_slot_4 rfl (lv_at hl 1 rfl) ?_
    refine lv_iconst (v := 5) hx hb dX1_slot_5 (by decide) ?_
    refine lv_icmp_ge (tgt := 18) hx hb dX1_slot_6 (by decide) (fun c6 => ?_) (fun c6 => ?_)
    · rw [if_pos c6] at hE
      refine lv_null hx hb dX1_slot_18 ?_
      obtain rfl := sm1 hE
      exact xr_a hx hb hr hlk (Or.inl rfl) hG hI dX1_slot_19
    · rw [if_neg c6] at hE
      refine lv_aload_n hx hb dX1_slot_9 rfl (lv_at hl 0 rfl) ?_
      refine xg_get (C := RX1) (T := TX1) (M := 3) hx hb hown hG hI (by omega) eX_59 rfl inX1 0 (by decide) kf_X1_11 rfl dX1_slot_10 ?_
      refine lv_iload_n hx hb dX1_slot_13 rfl (lv_at hl 1 rfl) ?_
      obtain ⟨k1, hv, hE⟩ := bd1_some hE
      have hk1 := (ldA_some hv).2.2
      refine xg_aaldR 2 hx hb hG hI (by omega) eX_60 rfl hv rfl dX1_slot_14 ?_
      refine lv_goto (tgt := 19) hx hb dX1_slot_15 (by decide) ?_
      obtain rfl := sm1 hE
      exact xr_a hx hb hr hlk (Or.inr ⟨_, rfl⟩) hG hI dX1_slot_19
theorem lt_X1_slot {u : Mem} {p1 : Int32} {d : Nat} (h : X1_slot u p1 = some (some d)) : d < 8 := by
  unfold X1_slot at h
  repeat' split at h
  all_goals first
    | (cases h; done)
    | (obtain ⟨k, hv, h⟩ := bd1_some h; have := (ldA_some hv).2.2; cases h; omega)
def X1_keep (u : Mem) (p1 : Nat) : Option (Mem) :=
  (X1_slot u (u 59 1) : Option (Option Nat)).bind fun (r1 : Option Nat) => match r1 with | none => ((if 5 ≤ ((u 59 1) + 1) then some 0 else some ((u 59 1) + 1)) : Option Int32).bind fun (x3 : Int32) => (stF u 59 1 x3).bind fun mu5 => (stF mu5 59 2 (if 5 < ((mu5 59 2) + 1) then 5 else ((mu5 59 2) + 1))).bind fun mu6 => some mu6 | some d2 => (X0_copyFrom u d2 p1 : Option Mem).bind fun (mu7 : Mem) => ((if 5 ≤ ((mu7 59 1) + 1) then some 0 else some ((mu7 59 1) + 1)) : Option Int32).bind fun (x8 : Int32) => (stF mu7 59 1 x8).bind fun mu10 => (stF mu10 59 2 (if 5 < ((mu10 59 2) + 1) then 5 else ((mu10 59 2) + 1))).bind fun mu11 => some mu11
set_option maxHeartbeats 4000000 in
set_option maxRecDepth 100000 in
theorem c_X1_keep {l : Launch} {D : va_G} {A : Nat → Nat} {cI cZ cD : ClassId} {u u1 : Mem} {p1 : Nat} (hp1 : p1 < 8) (hE : X1_keep u p1 = some (u1)) : Ct l yX1_keep cX1_keep 3 none (rmOf 3 60) D (tyL cI cZ cD) [.ref (A 59), .ref (A (50 + p1))] (wX A cI cZ cD u) none (wX A cI cZ cD u1) := by
  refine Ct.ofW (by decide +kernel) (fun p e s m below meth c hC hI => ?_)
  obtain ⟨hx, hb, hml, hown, hr, hlk, hG⟩ := hC
  have hown : s.vm.findClass RX1 = some m.cls := hown
  have hl := lv_entry ([.ref (A 59), .ref (A (50 + p1))] : List Value) (n := 3) (Nat.le_of_ble_eq_true rfl)
  rw [lg_entry_eq]
  generalize (lg_sl ([.ref (A 59), .ref (A (50 + p1))] : List Value) ++ List.replicate (3 - (lg_sl ([.ref (A 59), .ref (A (50 + p1))] : List Value)).length) Slot.unset).toArray = ls at hl ⊢
  have hl : lv_has ls 3 [(0, .ref (A 59)), (1, .ref (A (50 + p1)))] := hl
  unfold X1_keep at hE
  refine lv_aload_n hx hb dX1_keep_0 rfl (lv_at hl 0 rfl) ?_
  refine lv_aload_n hx hb dX1_keep_1 rfl (lv_at hl 0 rfl) ?_
  refine xg_get (C := RX1) (T := TX1) (M := 3) hx hb hown hG hI (by omega) eX_59 rfl inX1 1 (by decide) kf_X1_17 rfl dX1_keep_2 ?_
  obtain ⟨r1, hc, hE⟩ := bd1_some hE
  refine xc_V1 (rest := []) (c_X1_slot hc) mw_X1_slot km_X1_25 hx hb hml hown hG hI xA_of (wG_atE (by omega) eX_59) rfl rfl ⟨Nat.le_of_ble_eq_true rfl, Nat.le_of_ble_eq_true rfl⟩ rfl hl.1 rfl (Nat.le_of_ble_eq_true rfl) dX1_keep_5 (fun H locs hI => ?_)
  cases r1 with
  | none =>
    dsimp only at hE
    refine W.eq (g2 := F0 m 8 ls [.null]) rfl ?_
    refine lv_astore_nN (lv' := [(2, .null), (0, .ref (A 59)), (1, .ref (A (50 + p1)))]) hx hb dX1_keep_8 rfl hl (by decide) rfl (fun ls hl => ?_)
    refine lv_aload_nN hx hb dX1_keep_9 rfl (lv_at hl 0 rfl) ?_
    refine lv_ifnullN (tgt := 18) hx hb dX1_keep_10 (by decide) ?_
    refine lv_aload_n hx hb dX1_keep_18 rfl (lv_at hl 1 rfl) ?_
    refine lv_aload_n hx hb dX1_keep_19 rfl (lv_at hl 1 rfl) ?_
    refine xg_get (C := RX1) (T := TX1) (M := 3) hx hb hown hG hI (by omega) eX_59 rfl inX1 1 (by decide) kf_X1_17 rfl dX1_keep_20 ?_
    refine lv_iconst (v := 1) hx hb dX1_keep_23 (by decide) ?_
    refine lv_iadd hx hb dX1_keep_24 ?_
    refine lv_iconst (v := 5) hx hb dX1_keep_25 (by decide) ?_
    obtain ⟨x3, hZ, hE⟩ := bd1_some hE
    have hJ39_3 : ∀ (H : Heap) (locs : List Loc) (ls : Array Slot), xI D (va_A (wX A cI cZ cD u) s.heap.size) s.heap (wX A cI cZ cD u) H locs → lv_has ls 3 [(0, .ref (A 59))] → W p l e (rmOf 3 60) s m ([.ref (A 59), .ref (A (50 + p1))] : List Value).toArray below meth c H locs 0 0 (xQ D (tyL cI cZ cD) below ([.ref (A 59), .ref (A (50 + p1))] : List Value).toArray s (wX A cI cZ cD u) none (wX A cI cZ cD u1)) (F0 m 39 ls [.int x3, .ref (A 59)]) := by
      intro H locs ls hI hl
      clear hZ
      obtain ⟨mu5, hu, hE⟩ := bd1_some hE
      refine xg_put (C := RX1) (T := TX1) (M := 3) hx hb hown hG hI (by omega) eX_59 rfl inX1 tyX1 tyX1_ok nmX1 1 (by decide) kf_X1_17 rfl (ty := .int) (by decide +kernel) rfl rfl (Nat.le_of_ble_eq_true rfl) rfl hu dX1_keep_39 (fun H locs hI => ?_)
      refine lv_aload_n hx hb dX1_keep_42 rfl (lv_at hl 0 rfl) ?_
      refine lv_aload_n hx hb dX1_keep_43 rfl (lv_at hl 0 rfl) ?_
      refine xg_get (C := RX1) (T := TX1) (M := 3) hx hb hown hG hI (by omega) eX_59 rfl inX1 2 (by decide) kf_X1_21 rfl dX1_keep_44 ?_
      refine lv_iconst (v := 1) hx hb dX1_keep_47 (by decide) ?_
      refine lv_iadd hx hb dX1_keep_48 ?_
      refine lv_iconst (v := 5) hx hb dX1_keep_49 (by decide) ?_
      refine va_mmin hx hb (hml.trans hl.1.symm) hown (hG.2 _ km_X1_33 _) (hG.2 _ k_mins _) (hG.2 _ ki_J9 _) (hG.2 _ k_minc _) (Nat.le_of_ble_eq_true rfl) (Nat.le_of_ble_eq_true rfl) (Nat.zero_le _) (Nat.zero_le _) dX1_keep_50 ?_
      obtain ⟨mu6, hu, hE⟩ := bd1_some hE
      refine xg_put (C := RX1) (T := TX1) (M := 3) hx hb hown hG hI (by omega) eX_59 rfl inX1 tyX1 tyX1_ok nmX1 2 (by decide) kf_X1_21 rfl (ty := .int) (by decide +kernel) rfl rfl (Nat.le_of_ble_eq_true rfl) rfl hu dX1_keep_53 (fun H locs hI => ?_)
      obtain rfl := sm1 hE
      exact xr_v hx hb hr hlk hG hI dX1_keep_56
    replace hE := hZ
    clear hZ
    refine lv_icmp_ge (tgt := 38) hx hb dX1_keep_26 (by decide) (fun c26 => ?_) (fun c26 => ?_)
    · rw [if_pos c26] at hE
      refine lv_iconst (v := 0) hx hb dX1_keep_38 (by decide) ?_
      obtain rfl := sm1 hE
      exact hJ39_3 _ _ _ hI (lv_sub hl [1] rfl)
    · rw [if_neg c26] at hE
      refine lv_aload_n hx hb dX1_keep_29 rfl (lv_at hl 1 rfl) ?_
      refine xg_get (C := RX1) (T := TX1) (M := 3) hx hb hown hG hI (by omega) eX_59 rfl inX1 1 (by decide) kf_X1_17 rfl dX1_keep_30 ?_
      refine lv_iconst (v := 1) hx hb dX1_keep_33 (by decide) ?_
      refine lv_iadd hx hb dX1_keep_34 ?_
      refine lv_goto (tgt := 39) hx hb dX1_keep_35 (by decide) ?_
      obtain rfl := sm1 hE
      exact hJ39_3 _ _ _ hI (lv_sub hl [1] rfl)
  | some d2 =>
    dsimp only at hE
    have hd2 : d2 < 8 := lt_X1_slot hc
    refine W.eq (g2 := F0 m 8 ls [.ref (A (50 + d2))]) rfl ?_
    refine lv_astore_n (lv' := [(2, .ref (A (50 + d2))), (0, .ref (A 59)), (1, .ref (A (50 + p1)))]) hx hb dX1_keep_8 rfl hl (by decide) rfl (fun ls hl => ?_)
    refine lv_aload_n hx hb dX1_keep_9 rfl (lv_at hl 0 rfl) ?_
    refine lv_ifnull hx hb dX1_keep_10 ?_
    refine lv_aload_n hx hb dX1_keep_13 rfl (lv_at hl 0 rfl) ?_
    refine lv_aload_n hx hb dX1_keep_14 rfl (lv_at hl 2 rfl) ?_
    obtain ⟨mu7, hc, hE⟩ := bd1_some hE
    refine xc_V0 (rest := []) (c_X0_copyFrom (by omega) (by omega) hc) mw_X0_copyFrom km_X1_29 hx hb hml hown hG hI xA_of (wG_atE (by omega) (eX_D (d := d2) (by omega))) rfl rfl ⟨Nat.le_of_ble_eq_true rfl, Nat.le_of_ble_eq_true rfl⟩ rfl hl.1 rfl (Nat.le_of_ble_eq_true rfl) dX1_keep_15 (fun H locs hI => ?_)
    refine lv_aload_n hx hb dX1_keep_18 rfl (lv_at hl 1 rfl) ?_
    refine lv_aload_n hx hb dX1_keep_19 rfl (lv_at hl 1 rfl) ?_
    refine xg_get (C := RX1) (T := TX1) (M := 3) hx hb hown hG hI (by omega) eX_59 rfl inX1 1 (by decide) kf_X1_17 rfl dX1_keep_20 ?_
    refine lv_iconst (v := 1) hx hb dX1_keep_23 (by decide) ?_
    refine lv_iadd hx hb dX1_keep_24 ?_
    refine lv_iconst (v := 5) hx hb dX1_keep_25 (by decide) ?_
    obtain ⟨x8, hZ, hE⟩ := bd1_some hE
    have hJ39_8 : ∀ (H : Heap) (locs : List Loc) (ls : Array Slot), xI D (va_A (wX A cI cZ cD u) s.heap.size) s.heap (wX A cI cZ cD mu7) H locs → lv_has ls 3 [(0, .ref (A 59))] → W p l e (rmOf 3 60) s m ([.ref (A 59), .ref (A (50 + p1))] : List Value).toArray below meth c H locs 0 0 (xQ D (tyL cI cZ cD) below ([.ref (A 59), .ref (A (50 + p1))] : List Value).toArray s (wX A cI cZ cD u) none (wX A cI cZ cD u1)) (F0 m 39 ls [.int x8, .ref (A 59)]) := by
      intro H locs ls hI hl
      clear hZ
      obtain ⟨mu10, hu, hE⟩ := bd1_some hE
      refine xg_put (C := RX1) (T := TX1) (M := 3) hx hb hown hG hI (by omega) eX_59 rfl inX1 tyX1 tyX1_ok nmX1 1 (by decide) kf_X1_17 rfl (ty := .int) (by decide +kernel) rfl rfl (Nat.le_of_ble_eq_true rfl) rfl hu dX1_keep_39 (fun H locs hI => ?_)
      refine lv_aload_n hx hb dX1_keep_42 rfl (lv_at hl 0 rfl) ?_
      refine lv_aload_n hx hb dX1_keep_43 rfl (lv_at hl 0 rfl) ?_
      refine xg_get (C := RX1) (T := TX1) (M := 3) hx hb hown hG hI (by omega) eX_59 rfl inX1 2 (by decide) kf_X1_21 rfl dX1_keep_44 ?_
      refine lv_iconst (v := 1) hx hb dX1_keep_47 (by decide) ?_
      refine lv_iadd hx hb dX1_keep_48 ?_
      refine lv_iconst (v := 5) hx hb dX1_keep_49 (by decide) ?_
      refine va_mmin hx hb (hml.trans hl.1.symm) hown (hG.2 _ km_X1_33 _) (hG.2 _ k_mins _) (hG.2 _ ki_J9 _) (hG.2 _ k_minc _) (Nat.le_of_ble_eq_true rfl) (Nat.le_of_ble_eq_true rfl) (Nat.zero_le _) (Nat.zero_le _) dX1_keep_50 ?_
      obtain ⟨mu11, hu, hE⟩ := bd1_some hE
      refine xg_put (C := RX1) (T := TX1) (M := 3) hx hb hown hG hI (by omega) eX_59 rfl inX1 tyX1 tyX1_ok nmX1 2 (by decide) kf_X1_21 rfl (ty := .int) (by decide +kernel) rfl rfl (Nat.le_of_ble_eq_true rfl) rfl hu dX1_keep_53 (fun H locs hI => ?_)
      obtain rfl := sm1 hE
      exact xr_v hx hb hr hlk hG hI dX1_keep_56
    replace hE := hZ
    clear hZ
    refine lv_icmp_ge (tgt := 38) hx hb dX1_keep_26 (by decide) (fun c26 => ?_) (fun c26 => ?_)
    · rw [if_pos c26] at hE
      refine lv_iconst (v := 0) hx hb dX1_keep_38 (by decide) ?_
      obtain rfl := sm1 hE
      exact hJ39_8 _ _ _ hI (lv_sub hl [1] rfl)
    · rw [if_neg c26] at hE
      refine lv_aload_n hx hb dX1_keep_29 rfl (lv_at hl 1 rfl) ?_
      refine xg_get (C := RX1) (T := TX1) (M := 3) hx hb hown hG hI (by omega) eX_59 rfl inX1 1 (by decide) kf_X1_17 rfl dX1_keep_30 ?_
      refine lv_iconst (v := 1) hx hb dX1_keep_33 (by decide) ?_
      refine lv_iadd hx hb dX1_keep_34 ?_
      refine lv_goto (tgt := 39) hx hb dX1_keep_35 (by decide) ?_
      obtain rfl := sm1 hE
      exact hJ39_8 _ _ _ hI (lv_sub hl [1] rfl)
def X1_takeBack (u : Mem) (p1 : Nat) : Option (Mem) :=
  (if (u 59 2) = 0 then some u else ((if (u 59 1) ≤ 0 then some 4 else some ((u 59 1) - 1)) : Option Int32).bind fun (x1 : Int32) => (stF u 59 1 x1).bind fun mu3 => (stF mu3 59 2 ((mu3 59 2) - 1)).bind fun mu4 => (X1_slot mu4 (mu4 59 1) : Option (Option Nat)).bind fun (r5 : Option Nat) => match r5 with | none => some mu4 | some d6 => (X0_copyFrom mu4 p1 d6 : Option Mem).bind fun (mu7 : Mem) => some mu7)
set_option maxHeartbeats 4000000 in
set_option maxRecDepth 100000 in
theorem c_X1_takeBack {l : Launch} {D : va_G} {A : Nat → Nat} {cI cZ cD : ClassId} {u u1 : Mem} {p1 : Nat} (hp1 : p1 < 8) (hE : X1_takeBack u p1 = some (u1)) : Ct l yX1_takeBack cX1_takeBack 3 none (rmOf 3 60) D (tyL cI cZ cD) [.ref (A 59), .ref (A (50 + p1))] (wX A cI cZ cD u) none (wX A cI cZ cD u1) := by
  refine Ct.ofW (by decide +kernel) (fun p e s m below meth c hC hI => ?_)
  obtain ⟨hx, hb, hml, hown, hr, hlk, hG⟩ := hC
  have hown : s.vm.findClass RX1 = some m.cls := hown
  have hl := lv_entry ([.ref (A 59), .ref (A (50 + p1))] : List Value) (n := 3) (Nat.le_of_ble_eq_true rfl)
  rw [lg_entry_eq]
  generalize (lg_sl ([.ref (A 59), .ref (A (50 + p1))] : List Value) ++ List.replicate (3 - (lg_sl ([.ref (A 59), .ref (A (50 + p1))] : List Value)).length) Slot.unset).toArray = ls at hl ⊢
  have hl : lv_has ls 3 [(0, .ref (A 59)), (1, .ref (A (50 + p1)))] := hl
  unfold X1_takeBack at hE
  refine lv_aload_n hx hb dX1_takeBack_0 rfl (lv_at hl 0 rfl) ?_
  refine xg_get (C := RX1) (T := TX1) (M := 3) hx hb hown hG hI (by omega) eX_59 rfl inX1 2 (by decide) kf_X1_21 rfl dX1_takeBack_1 ?_
  refine lv_if_ne (tgt := 8) hx hb dX1_takeBack_4 (by decide) (fun c4 => ?_) (fun c4 => ?_)
  · rw [if_neg c4] at hE
    refine lv_aload_n hx hb dX1_takeBack_8 rfl (lv_at hl 0 rfl) ?_
    refine lv_aload_n hx hb dX1_takeBack_9 rfl (lv_at hl 0 rfl) ?_
    refine xg_get (C := RX1) (T := TX1) (M := 3) hx hb hown hG hI (by omega) eX_59 rfl inX1 1 (by decide) kf_X1_17 rfl dX1_takeBack_10 ?_
    obtain ⟨x1, hZ, hE⟩ := bd1_some hE
    have hJ26_1 : ∀ (H : Heap) (locs : List Loc) (ls : Array Slot), xI D (va_A (wX A cI cZ cD u) s.heap.size) s.heap (wX A cI cZ cD u) H locs → lv_has ls 3 [(0, .ref (A 59)), (1, .ref (A (50 + p1)))] → W p l e (rmOf 3 60) s m ([.ref (A 59), .ref (A (50 + p1))] : List Value).toArray below meth c H locs 0 0 (xQ D (tyL cI cZ cD) below ([.ref (A 59), .ref (A (50 + p1))] : List Value).toArray s (wX A cI cZ cD u) none (wX A cI cZ cD u1)) (F0 m 26 ls [.int x1, .ref (A 59)]) := by
      intro H locs ls hI hl
      clear hZ
      obtain ⟨mu3, hu, hE⟩ := bd1_some hE
      refine xg_put (C := RX1) (T := TX1) (M := 3) hx hb hown hG hI (by omega) eX_59 rfl inX1 tyX1 tyX1_ok nmX1 1 (by decide) kf_X1_17 rfl (ty := .int) (by decide +kernel) rfl rfl (Nat.le_of_ble_eq_true rfl) rfl hu dX1_takeBack_26 (fun H locs hI => ?_)
      refine lv_aload_n hx hb dX1_takeBack_29 rfl (lv_at hl 0 rfl) ?_
      refine lv_dup hx hb dX1_takeBack_30 rfl ?_
      refine xg_get (C := RX1) (T := TX1) (M := 3) hx hb hown hG hI (by omega) eX_59 rfl inX1 2 (by decide) kf_X1_21 rfl dX1_takeBack_31 ?_
      refine lv_iconst (v := 1) hx hb dX1_takeBack_34 (by decide) ?_
      refine lv_isub hx hb dX1_takeBack_35 ?_
      obtain ⟨mu4, hu, hE⟩ := bd1_some hE
      refine xg_put (C := RX1) (T := TX1) (M := 3) hx hb hown hG hI (by omega) eX_59 rfl inX1 tyX1 tyX1_ok nmX1 2 (by decide) kf_X1_21 rfl (ty := .int) (by decide +kernel) rfl rfl (Nat.le_of_ble_eq_true rfl) rfl hu dX1_takeBack_36 (fun H locs hI => ?_)
      refine lv_aload_n hx hb dX1_takeBack_39 rfl (lv_at hl 0 rfl) ?_
      refine lv_aload_n hx hb dX1_takeBack_40 rfl (lv_at hl 0 rfl) ?_
      refine xg_get (C := RX1) (T := TX1) (M := 3) hx hb hown hG hI (by omega) eX_59 rfl inX1 1 (by decide) kf_X1_17 rfl dX1_takeBack_41 ?_
      obtain ⟨r5, hc, hE⟩ := bd1_some hE
      refine xc_V1 (rest := []) (c_X1_slot hc) mw_X1_slot km_X1_25 hx hb hml hown hG hI xA_of (wG_atE (by omega) eX_59) rfl rfl ⟨Nat.le_of_ble_eq_true rfl, Nat.le_of_ble_eq_true rfl⟩ rfl hl.1 rfl (Nat.le_of_ble_eq_true rfl) dX1_takeBack_44 (fun H locs hI => ?_)
      cases r5 with
      | none =>
        dsimp only at hE
        refine W.eq (g2 := F0 m 47 ls [.null]) rfl ?_
        refine lv_astore_nN (lv' := [(2, .null), (0, .ref (A 59)), (1, .ref (A (50 + p1)))]) hx hb dX1_takeBack_47 rfl hl (by decide) rfl (fun ls hl => ?_)
        refine lv_aload_nN hx hb dX1_takeBack_48 rfl (lv_at hl 0 rfl) ?_
        refine lv_ifnullN (tgt := 57) hx hb dX1_takeBack_49 (by decide) ?_
        obtain rfl := sm1 hE
        exact xr_v hx hb hr hlk hG hI dX1_takeBack_57
      | some d6 =>
        dsimp only at hE
        have hd6 : d6 < 8 := lt_X1_slot hc
        refine W.eq (g2 := F0 m 47 ls [.ref (A (50 + d6))]) rfl ?_
        refine lv_astore_n (lv' := [(2, .ref (A (50 + d6))), (0, .ref (A 59)), (1, .ref (A (50 + p1)))]) hx hb dX1_takeBack_47 rfl hl (by decide) rfl (fun ls hl => ?_)
        refine lv_aload_n hx hb dX1_takeBack_48 rfl (lv_at hl 0 rfl) ?_
        refine lv_ifnull hx hb dX1_takeBack_49 ?_
        refine lv_aload_n hx hb dX1_takeBack_52 rfl (lv_at hl 2 rfl) ?_
        refine lv_aload_n hx hb dX1_takeBack_53 rfl (lv_at hl 0 rfl) ?_
        obtain ⟨mu7, hc, hE⟩ := bd1_some hE
        refine xc_V0 (rest := []) (c_X0_copyFrom (by omega) (by omega) hc) mw_X0_copyFrom km_X1_29 hx hb hml hown hG hI xA_of (wG_atE (by omega) (eX_D (d := p1) (by omega))) rfl rfl ⟨Nat.le_of_ble_eq_true rfl, Nat.le_of_ble_eq_true rfl⟩ rfl hl.1 rfl (Nat.le_of_ble_eq_true rfl) dX1_takeBack_54 (fun H locs hI => ?_)
        obtain rfl := sm1 hE
        exact xr_v hx hb hr hlk hG hI dX1_takeBack_57
    replace hE := hZ
    clear hZ
    refine lv_if_le (tgt := 25) hx hb dX1_takeBack_13 (by decide) (fun c13 => ?_) (fun c13 => ?_)
    · rw [if_pos c13] at hE
      refine lv_iconst (v := 4) hx hb dX1_takeBack_25 (by decide) ?_
      obtain rfl := sm1 hE
      exact hJ26_1 _ _ _ hI (lv_sub hl [0, 1] rfl)
    · rw [if_neg c13] at hE
      refine lv_aload_n hx hb dX1_takeBack_16 rfl (lv_at hl 0 rfl) ?_
      refine xg_get (C := RX1) (T := TX1) (M := 3) hx hb hown hG hI (by omega) eX_59 rfl inX1 1 (by decide) kf_X1_17 rfl dX1_takeBack_17 ?_
      refine lv_iconst (v := 1) hx hb dX1_takeBack_20 (by decide) ?_
      refine lv_isub hx hb dX1_takeBack_21 ?_
      refine lv_goto (tgt := 26) hx hb dX1_takeBack_22 (by decide) ?_
      obtain rfl := sm1 hE
      exact hJ26_1 _ _ _ hI (lv_sub hl [0, 1] rfl)
  · rw [if_pos c4] at hE
    obtain rfl := sm1 hE
    exact xr_v hx hb hr hlk hG hI dX1_takeBack_7
