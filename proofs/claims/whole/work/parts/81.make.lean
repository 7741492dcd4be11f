/-! ===== PHASE A: the makers (printed by wip/whole/mkparts.py) ===== -/
def f00 : Nat → Int32 := upd (upd (fun _ => 0) 64 1) 0 (-1)
theorem reset0 : X4_reset (fun _ => 0) = some f00 := by
  obtain ⟨r, hL, hr⟩ := lp_fu (fun n (y : Nat → Int32) z => X4_reset_L2 n z y) 0 80 (fun _ y => y = fun _ => 0) (fun r => r = fun _ => 0) (fun _ => 0) (by decide) (by decide) rfl
    (fun n y h => ⟨y, by rw [X4_reset_L2, if_pos (by decide)], h⟩)
    (fun n y k hk h => by
      left
      refine ⟨fun _ => 0, rfl, ?_⟩
      rw [X4_reset_L2, if_neg (by rw [nle_80 (by omega)]; omega), wr_ok hk (by decide), ob_some, nar_1, h]
      congr 1
      funext i
      by_cases e : i = k
      · rw [e, upd_s]
      · rw [upd_n _ _ e])
  unfold X4_reset
  rw [show X4_reset_L2 fu 0 (fun _ => 0) = some r from hL, ob_some, hr, show X4_put (fun _ => 0) 0 4 1 = some (upd (fun _ => 0) (16 * 4 + 0) 1) from put_ok (k := 0) (w := 4) (by decide) (by decide), ob_some, show X4_put (upd (fun _ => 0) (16 * 4 + 0) 1) 0 0 (-1) = some (upd (upd (fun _ => 0) (16 * 4 + 0) 1) (16 * 0 + 0) (-1)) from put_ok (k := 0) (w := 0) (by decide) (by decide), ob_some]
  rfl
def wOut (cI : ClassId) (q a : Nat) : va_W := [(q, .inr (4, [.ref a])), (a, .inl (cI, 80, .inl f00))]
set_option maxHeartbeats 4000000 in
set_option maxRecDepth 100000 in
theorem c_X4_init {l : Launch} {D : va_G} {cI cZ cD : ClassId} {q : Nat} : CtI l yX4_init cX4_init 1 2 44 1 80 D (tyL cI cZ cD) [.ref q] [(q, .inr (4, [.null]))] (fun B => wOut cI q (B 0)) := by
  refine CtI.ofW (by decide +kernel) (fun p e s m below meth c hC hin hO hI => ?_)
  obtain ⟨hx, hb, hml, hown, hr, hlk, hG⟩ := hC
  have hown : s.vm.findClass RX4 = some m.cls := hown
  have hin : meth.name = "<init>" := hin
  have hl := lv_entry ([.ref q] : List Value) (n := 1) (Nat.le_of_ble_eq_true rfl)
  rw [lg_entry_eq]
  generalize (lg_sl ([.ref q] : List Value) ++ List.replicate (1 - (lg_sl ([.ref q] : List Value)).length) Slot.unset).toArray = ls at hl ⊢
  have hl : lv_has ls 1 [(0, .ref q)] := hl
  refine lv_aload_n hx hb dX4_init_0 rfl (lv_at hl 0 rfl) ?_
  refine xn_obj (rest := []) hx hb hml hl.1 hown hG km_X4_3 dX4_init_1 (Nat.le_of_ble_eq_true rfl) (Nat.le_of_ble_eq_true rfl) ?_
  refine lv_aload_n hx hb dX4_init_4 rfl (lv_at hl 0 rfl) ?_
  refine lv_bipush (v := 80) hx hb dX4_init_5 (by decide) ?_
  refine xn_newI (N' := 80) hx hb hG hI xA_of 0 rfl (by decide) (by decide) (Nat.le_of_ble_eq_true rfl) (Nat.le_of_ble_eq_true rfl) (Nat.le_of_ble_eq_true rfl) dX4_init_7 (fun a1 H hI => ?_)
  have hI : xI D (va_A [(q, .inr (4, [.null]))] s.heap.size) s.heap ([(q, .inr (4, [.null]))] ++ [(a1, .inl (cI, 80, .inl (fun _ => 0)))]) _ _ := hI
  refine xn_putF (own := RX4) (C := RX4) (T := TX4) (N := 1) (ci := 4) (ty := .array .int) (v := .ref a1) hx hb hown hG hI 0 rfl rfl inX4 tyX4 tyX4_ok nmX4 0 (by decide) kf_X4_9 rfl hin rfl (by decide +kernel) rfl rfl (Nat.le_of_ble_eq_true rfl) dX4_init_9 (fun H locs hI => ?_)
  have hI : xI D (va_A [(q, .inr (4, [.null]))] s.heap.size) s.heap ([(q, .inr (4, [.ref a1]))] ++ [(a1, .inl (cI, 80, .inl (fun _ => 0)))]) _ _ := hI
  refine lv_aload_n hx hb dX4_init_12 rfl (lv_at hl 0 rfl) ?_
  refine xk_V (ws := []) (As := []) (rest := []) (q0 := 0) (c_X4_reset (ws := [(q, .inr (4, [.ref a1])), (a1, .inl (cI, 80, .inl (fun _ => 0)))]) (k0 := 0) (k1 := 1) ⟨rfl, Nat.le_of_ble_eq_true rfl, Nat.zero_ne_one⟩ reset0) mw_X4_reset km_X4_15 hx hb hml hown hG hI xA_of rfl rfl rfl ⟨(Nat.le_of_ble_eq_true rfl), (Nat.le_of_ble_eq_true rfl)⟩ ⟨(Nat.le_of_ble_eq_true rfl), (Nat.le_of_ble_eq_true rfl)⟩ rfl hl.1 rfl (Nat.le_of_ble_eq_true rfl) dX4_init_13 (fun H locs hI => ?_)
  exact xr_I (fun _ => a1) hx hb hr hlk hG hI (Nat.le_of_ble_eq_true rfl) (Nat.le_of_ble_eq_true rfl) dX4_init_16
def wDesk (cI : ClassId) (q : Nat) (B : Nat → Nat) : va_W := [(q, .inr (0, [.ref (B 0), .ref (B 2), .ref (B 4), .int 1, .int 1]))] ++ wOut cI (B 0) (B 1) ++ wOut cI (B 2) (B 3) ++ wOut cI (B 4) (B 5)
set_option maxHeartbeats 4000000 in
set_option maxRecDepth 100000 in
theorem c_X0_init {l : Launch} {D : va_G} {cI cZ cD : ClassId} {q : Nat} : CtI l yX0_init cX0_init 1 3 64 6 243 D (tyL cI cZ cD) [.ref q] [(q, .inr (0, [.null, .null, .null, .int 0, .int 0]))] (fun B => wDesk cI q B) := by
  refine CtI.ofW (by decide +kernel) (fun p e s m below meth c hC hin hO hI => ?_)
  obtain ⟨hx, hb, hml, hown, hr, hlk, hG⟩ := hC
  have hown : s.vm.findClass RX0 = some m.cls := hown
  have hin : meth.name = "<init>" := hin
  have hl := lv_entry ([.ref q] : List Value) (n := 1) (Nat.le_of_ble_eq_true rfl)
  rw [lg_entry_eq]
  generalize (lg_sl ([.ref q] : List Value) ++ List.replicate (1 - (lg_sl ([.ref q] : List Value)).length) Slot.unset).toArray = ls at hl ⊢
  have hl : lv_has ls 1 [(0, .ref q)] := hl
  refine lv_aload_n hx hb dX0_init_0 rfl (lv_at hl 0 rfl) ?_
  refine xn_obj (rest := []) hx hb hml hl.1 hown hG km_X0_3 dX0_init_1 (Nat.le_of_ble_eq_true rfl) (Nat.le_of_ble_eq_true rfl) ?_
  refine lv_aload_n hx hb dX0_init_4 rfl (lv_at hl 0 rfl) ?_
  refine xn_new (ci := 4) (fs := [.null]) (C := RX4) (T := TX4) (N := 1) hx hb hown hG hI xA_of inX4 tyX4 tyX4_ok kcl_X0_9 kn_X4 ki_X4 rfl (fun j hj => by rcases (show j = 0 by omega) with rfl <;> rfl) (Nat.le_of_ble_eq_true rfl) (Nat.le_of_ble_eq_true rfl) dX0_init_5 (fun o1 H hI => ?_)
  refine lv_dup hx hb dX0_init_8 rfl ?_
  refine xi_I (ws := [(q, .inr (0, [.null, .null, .null, .int 0, .int 0]))]) (w0 := [(o1, .inr (4, [.null]))]) (As := []) (rest := [.ref o1, .ref q]) (c_X4_init (cI := cI) (cZ := cZ) (cD := cD)) mwc_X4_init ki_X4 mwi_X4_init rfl (by decide) (by decide) (by decide +kernel) km_X0_11 hx hb hml hown hG hO hI xA_of ⟨(Nat.le_of_ble_eq_true rfl), (Nat.le_of_ble_eq_true rfl)⟩ ⟨(Nat.le_of_ble_eq_true rfl), (Nat.le_of_ble_eq_true rfl)⟩ rfl hl.1 rfl (Nat.le_of_ble_eq_true rfl) dX0_init_9 (fun B2 H locs hI => ?_)
  have hI : xI D (va_A [(q, .inr (0, [.null, .null, .null, .int 0, .int 0]))] s.heap.size) s.heap ([(q, .inr (0, [.null, .null, .null, .int 0, .int 0]))] ++ wOut cI o1 (B2 0)) _ _ := hI
  refine xn_putF (own := RX0) (C := RX0) (T := TX0) (N := 5) (ci := 0) (ty := .object "MergedOutline$Outline") (v := .ref o1) hx hb hown hG hI 0 rfl rfl inX0 tyX0 tyX0_ok nmX0 0 (by decide) kf_X0_12 rfl hin rfl (by decide +kernel) rfl rfl (Nat.le_of_ble_eq_true rfl) dX0_init_12 (fun H locs hI => ?_)
  have hI : xI D (va_A [(q, .inr (0, [.null, .null, .null, .int 0, .int 0]))] s.heap.size) s.heap ([(q, .inr (0, [.ref o1, .null, .null, .int 0, .int 0]))] ++ wOut cI o1 (B2 0)) _ _ := hI
  refine lv_aload_n hx hb dX0_init_15 rfl (lv_at hl 0 rfl) ?_
  refine xn_new (ci := 4) (fs := [.null]) (C := RX4) (T := TX4) (N := 1) hx hb hown hG hI xA_of inX4 tyX4 tyX4_ok kcl_X0_9 kn_X4 ki_X4 rfl (fun j hj => by rcases (show j = 0 by omega) with rfl <;> rfl) (Nat.le_of_ble_eq_true rfl) (Nat.le_of_ble_eq_true rfl) dX0_init_16 (fun o3 H hI => ?_)
  refine lv_dup hx hb dX0_init_19 rfl ?_
  refine xi_I (ws := [(q, .inr (0, [.ref o1, .null, .null, .int 0, .int 0]))] ++ wOut cI o1 (B2 0)) (w0 := [(o3, .inr (4, [.null]))]) (As := []) (rest := [.ref o3, .ref q]) (c_X4_init (cI := cI) (cZ := cZ) (cD := cD)) mwc_X4_init ki_X4 mwi_X4_init rfl (by decide) (by decide) (by decide +kernel) km_X0_11 hx hb hml hown hG hO hI xA_of ⟨(Nat.le_of_ble_eq_true rfl), (Nat.le_of_ble_eq_true rfl)⟩ ⟨(Nat.le_of_ble_eq_true rfl), (Nat.le_of_ble_eq_true rfl)⟩ rfl hl.1 rfl (Nat.le_of_ble_eq_true rfl) dX0_init_20 (fun B4 H locs hI => ?_)
  have hI : xI D (va_A [(q, .inr (0, [.null, .null, .null, .int 0, .int 0]))] s.heap.size) s.heap ([(q, .inr (0, [.ref o1, .null, .null, .int 0, .int 0]))] ++ wOut cI o1 (B2 0) ++ wOut cI o3 (B4 0)) _ _ := hI
  refine xn_putF (own := RX0) (C := RX0) (T := TX0) (N := 5) (ci := 0) (ty := .object "MergedOutline$Outline") (v := .ref o3) hx hb hown hG hI 0 rfl rfl inX0 tyX0 tyX0_ok nmX0 1 (by decide) kf_X0_18 rfl hin rfl (by decide +kernel) rfl rfl (Nat.le_of_ble_eq_true rfl) dX0_init_23 (fun H locs hI => ?_)
  have hI : xI D (va_A [(q, .inr (0, [.null, .null, .null, .int 0, .int 0]))] s.heap.size) s.heap ([(q, .inr (0, [.ref o1, .ref o3, .null, .int 0, .int 0]))] ++ wOut cI o1 (B2 0) ++ wOut cI o3 (B4 0)) _ _ := hI
  refine lv_aload_n hx hb dX0_init_26 rfl (lv_at hl 0 rfl) ?_
  refine xn_new (ci := 4) (fs := [.null]) (C := RX4) (T := TX4) (N := 1) hx hb hown hG hI xA_of inX4 tyX4 tyX4_ok kcl_X0_9 kn_X4 ki_X4 rfl (fun j hj => by rcases (show j = 0 by omega) with rfl <;> rfl) (Nat.le_of_ble_eq_true rfl) (Nat.le_of_ble_eq_true rfl) dX0_init_27 (fun o5 H hI => ?_)
  refine lv_dup hx hb dX0_init_30 rfl ?_
  refine xi_I (ws := [(q, .inr (0, [.ref o1, .ref o3, .null, .int 0, .int 0]))] ++ wOut cI o1 (B2 0) ++ wOut cI o3 (B4 0)) (w0 := [(o5, .inr (4, [.null]))]) (As := []) (rest := [.ref o5, .ref q]) (c_X4_init (cI := cI) (cZ := cZ) (cD := cD)) mwc_X4_init ki_X4 mwi_X4_init rfl (by decide) (by decide) (by decide +kernel) km_X0_11 hx hb hml hown hG hO hI xA_of ⟨(Nat.le_of_ble_eq_true rfl), (Nat.le_of_ble_eq_true rfl)⟩ ⟨(Nat.le_of_ble_eq_true rfl), (Nat.le_of_ble_eq_true rfl)⟩ rfl hl.1 rfl (Nat.le_of_ble_eq_true rfl) dX0_init_31 (fun B6 H locs hI => ?_)
  have hI : xI D (va_A [(q, .inr (0, [.null, .null, .null, .int 0, .int 0]))] s.heap.size) s.heap ([(q, .inr (0, [.ref o1, .ref o3, .null, .int 0, .int 0]))] ++ wOut cI o1 (B2 0) ++ wOut cI o3 (B4 0) ++ wOut cI o5 (B6 0)) _ _ := hI
  refine xn_putF (own := RX0) (C := RX0) (T := TX0) (N := 5) (ci := 0) (ty := .object "MergedOutline$Outline") (v := .ref o5) hx hb hown hG hI 0 rfl rfl inX0 tyX0 tyX0_ok nmX0 2 (by decide) kf_X0_21 rfl hin rfl (by decide +kernel) rfl rfl (Nat.le_of_ble_eq_true rfl) dX0_init_34 (fun H locs hI => ?_)
  have hI : xI D (va_A [(q, .inr (0, [.null, .null, .null, .int 0, .int 0]))] s.heap.size) s.heap ([(q, .inr (0, [.ref o1, .ref o3, .ref o5, .int 0, .int 0]))] ++ wOut cI o1 (B2 0) ++ wOut cI o3 (B4 0) ++ wOut cI o5 (B6 0)) _ _ := hI
  refine lv_aload_n hx hb dX0_init_37 rfl (lv_at hl 0 rfl) ?_
  refine lv_iconst (v := 1) hx hb dX0_init_38 (by decide) ?_
  refine xn_put (own := RX0) (C := RX0) (T := TX0) (N := 5) (ci := 0) (ty := .int) (v := .int 1) hx hb hown hG hI 0 rfl rfl inX0 tyX0 tyX0_ok nmX0 3 (by decide) kf_X0_24 rfl (by decide +kernel) (by decide +kernel) (by decide +kernel) (Nat.le_of_ble_eq_true rfl) dX0_init_39 (fun H locs hI => ?_)
  have hI : xI D (va_A [(q, .inr (0, [.null, .null, .null, .int 0, .int 0]))] s.heap.size) s.heap ([(q, .inr (0, [.ref o1, .ref o3, .ref o5, .int 1, .int 0]))] ++ wOut cI o1 (B2 0) ++ wOut cI o3 (B4 0) ++ wOut cI o5 (B6 0)) _ _ := hI
  refine lv_aload_n hx hb dX0_init_42 rfl (lv_at hl 0 rfl) ?_
  refine lv_iconst (v := 1) hx hb dX0_init_43 (by decide) ?_
  refine xn_put (own := RX0) (C := RX0) (T := TX0) (N := 5) (ci := 0) (ty := .int) (v := .int 1) hx hb hown hG hI 0 rfl rfl inX0 tyX0 tyX0_ok nmX0 4 (by decide) kf_X0_28 rfl (by decide +kernel) (by decide +kernel) (by decide +kernel) (Nat.le_of_ble_eq_true rfl) dX0_init_44 (fun H locs hI => ?_)
  have hI : xI D (va_A [(q, .inr (0, [.null, .null, .null, .int 0, .int 0]))] s.heap.size) s.heap ([(q, .inr (0, [.ref o1, .ref o3, .ref o5, .int 1, .int 1]))] ++ wOut cI o1 (B2 0) ++ wOut cI o3 (B4 0) ++ wOut cI o5 (B6 0)) _ _ := hI
  exact xr_I (fun i => match i with | 0 => o1 | 1 => B2 0 | 2 => o3 | 3 => B4 0 | 4 => o5 | _ => B6 0) hx hb hr hlk hG hI (Nat.le_of_ble_eq_true rfl) (Nat.le_of_ble_eq_true rfl) dX0_init_47
def wTab (cI : ClassId) (N q : Nat) (B : Nat → Nat) : va_W := [(q, .inr (6, [.ref (B 0), .ref (B 1), .ref (B 2), .int 0]))] ++ [(B 0, .inl (cI, N, .inl (fun _ => 0)))] ++ [(B 1, .inl (cI, N, .inl (fun _ => 0)))] ++ [(B 2, .inl (cI, N, .inl (fun _ => 0)))]
set_option maxHeartbeats 4000000 in
set_option maxRecDepth 100000 in
theorem c_X6_init128 {l : Launch} {D : va_G} {cI cZ cD : ClassId} {q : Nat} : CtI l yX6_init cX6_init 3 1 13 3 384 D (tyL cI cZ cD) [.ref q, .int 128] [(q, .inr (6, [.null, .null, .null, .int 0]))] (fun B => wTab cI 128 q B) := by
  refine CtI.ofW (by decide +kernel) (fun p e s m below meth c hC hin hO hI => ?_)
  obtain ⟨hx, hb, hml, hown, hr, hlk, hG⟩ := hC
  have hown : s.vm.findClass RX6 = some m.cls := hown
  have hin : meth.name = "<init>" := hin
  have hl := lv_entry ([.ref q, .int 128] : List Value) (n := 3) (Nat.le_of_ble_eq_true rfl)
  rw [lg_entry_eq]
  generalize (lg_sl ([.ref q, .int 128] : List Value) ++ List.replicate (3 - (lg_sl ([.ref q, .int 128] : List Value)).length) Slot.unset).toArray = ls at hl ⊢
  have hl : lv_has ls 3 [(0, .ref q), (1, .int 128)] := hl
  refine lv_aload_n hx hb dX6_init_0 rfl (lv_at hl 0 rfl) ?_
  refine xn_obj (rest := []) hx hb hml hl.1 hown hG km_X6_3 dX6_init_1 (Nat.le_of_ble_eq_true rfl) (Nat.le_of_ble_eq_true rfl) ?_
  refine lv_aload_n hx hb dX6_init_4 rfl (lv_at hl 0 rfl) ?_
  refine lv_iconst (v := 0) hx hb dX6_init_5 (by decide) ?_
  refine xn_put (own := RX6) (C := RX6) (T := TX6) (N := 4) (ci := 6) (ty := .int) (v := .int 0) hx hb hown hG hI 0 rfl rfl inX6 tyX6 tyX6_ok nmX6 3 (by decide) kf_X6_9 rfl (by decide +kernel) (by decide +kernel) (by decide +kernel) (Nat.le_of_ble_eq_true rfl) dX6_init_6 (fun H locs hI => ?_)
  have hI : xI D (va_A [(q, .inr (6, [.null, .null, .null, .int 0]))] s.heap.size) s.heap ([(q, .inr (6, [.null, .null, .null, .int 0]))]) _ _ := hI
  refine lv_iload_n hx hb dX6_init_9 rfl (lv_at hl 1 rfl) ?_
  refine lv_iconst (v := 0) hx hb dX6_init_10 (by decide) ?_
  refine va_mmax hx hb (hml.trans hl.1.symm) hown (hG.2 _ km_X6_15 _) (hG.2 _ k_maxs _) (hG.2 _ ki_J9 _) (hG.2 _ k_maxc _) (Nat.le_of_ble_eq_true rfl) (Nat.le_of_ble_eq_true rfl) (Nat.le_of_ble_eq_true rfl) (Nat.le_of_ble_eq_true rfl) dX6_init_11 ?_
  rw [show (if (128 : Int32) < 0 then (0 : Int32) else 128) = 128 from by decide]
  refine lv_istore_n (lv' := [(2, .int 128), (0, .ref q), (1, .int 128)]) hx hb dX6_init_14 rfl hl (by decide) rfl (fun ls hl => ?_)
  refine lv_aload_n hx hb dX6_init_15 rfl (lv_at hl 1 rfl) ?_
  refine lv_iload_n hx hb dX6_init_16 rfl (lv_at hl 0 rfl) ?_
  refine xn_newI (N' := 128) hx hb hG hI xA_of 0 rfl (by decide) (by decide) (Nat.le_of_ble_eq_true rfl) (Nat.le_of_ble_eq_true rfl) (Nat.le_of_ble_eq_true rfl) dX6_init_17 (fun a1 H hI => ?_)
  have hI : xI D (va_A [(q, .inr (6, [.null, .null, .null, .int 0]))] s.heap.size) s.heap ([(q, .inr (6, [.null, .null, .null, .int 0]))] ++ [(a1, .inl (cI, 128, .inl (fun _ => 0)))]) _ _ := hI
  refine xn_putF (own := RX6) (C := RX6) (T := TX6) (N := 4) (ci := 6) (ty := .array .int) (v := .ref a1) hx hb hown hG hI 0 rfl rfl inX6 tyX6 tyX6_ok nmX6 0 (by decide) kf_X6_21 rfl hin rfl (by decide +kernel) rfl rfl (Nat.le_of_ble_eq_true rfl) dX6_init_19 (fun H locs hI => ?_)
  have hI : xI D (va_A [(q, .inr (6, [.null, .null, .null, .int 0]))] s.heap.size) s.heap ([(q, .inr (6, [.ref a1, .null, .null, .int 0]))] ++ [(a1, .inl (cI, 128, .inl (fun _ => 0)))]) _ _ := hI
  refine lv_aload_n hx hb dX6_init_22 rfl (lv_at hl 1 rfl) ?_
  refine lv_iload_n hx hb dX6_init_23 rfl (lv_at hl 0 rfl) ?_
  refine xn_newI (N' := 128) hx hb hG hI xA_of 0 rfl (by decide) (by decide) (Nat.le_of_ble_eq_true rfl) (Nat.le_of_ble_eq_true rfl) (Nat.le_of_ble_eq_true rfl) dX6_init_24 (fun a2 H hI => ?_)
  have hI : xI D (va_A [(q, .inr (6, [.null, .null, .null, .int 0]))] s.heap.size) s.heap ([(q, .inr (6, [.ref a1, .null, .null, .int 0]))] ++ [(a1, .inl (cI, 128, .inl (fun _ => 0)))] ++ [(a2, .inl (cI, 128, .inl (fun _ => 0)))]) _ _ := hI
  refine xn_putF (own := RX6) (C := RX6) (T := TX6) (N := 4) (ci := 6) (ty := .array .int) (v := .ref a2) hx hb hown hG hI 0 rfl rfl inX6 tyX6 tyX6_ok nmX6 1 (by decide) kf_X6_25 rfl hin rfl (by decide +kernel) rfl rfl (Nat.le_of_ble_eq_true rfl) dX6_init_26 (fun H locs hI => ?_)
  have hI : xI D (va_A [(q, .inr (6, [.null, .null, .null, .int 0]))] s.heap.size) s.heap ([(q, .inr (6, [.ref a1, .ref a2, .null, .int 0]))] ++ [(a1, .inl (cI, 128, .inl (fun _ => 0)))] ++ [(a2, .inl (cI, 128, .inl (fun _ => 0)))]) _ _ := hI
  refine lv_aload_n hx hb dX6_init_29 rfl (lv_at hl 1 rfl) ?_
  refine lv_iload_n hx hb dX6_init_30 rfl (lv_at hl 0 rfl) ?_
  refine xn_newI (N' := 128) hx hb hG hI xA_of 0 rfl (by decide) (by decide) (Nat.le_of_ble_eq_true rfl) (Nat.le_of_ble_eq_true rfl) (Nat.le_of_ble_eq_true rfl) dX6_init_31 (fun a3 H hI => ?_)
  have hI : xI D (va_A [(q, .inr (6, [.null, .null, .null, .int 0]))] s.heap.size) s.heap ([(q, .inr (6, [.ref a1, .ref a2, .null, .int 0]))] ++ [(a1, .inl (cI, 128, .inl (fun _ => 0)))] ++ [(a2, .inl (cI, 128, .inl (fun _ => 0)))] ++ [(a3, .inl (cI, 128, .inl (fun _ => 0)))]) _ _ := hI
  refine xn_putF (own := RX6) (C := RX6) (T := TX6) (N := 4) (ci := 6) (ty := .array .int) (v := .ref a3) hx hb hown hG hI 0 rfl rfl inX6 tyX6 tyX6_ok nmX6 2 (by decide) kf_X6_28 rfl hin rfl (by decide +kernel) rfl rfl (Nat.le_of_ble_eq_true rfl) dX6_init_33 (fun H locs hI => ?_)
  have hI : xI D (va_A [(q, .inr (6, [.null, .null, .null, .int 0]))] s.heap.size) s.heap ([(q, .inr (6, [.ref a1, .ref a2, .ref a3, .int 0]))] ++ [(a1, .inl (cI, 128, .inl (fun _ => 0)))] ++ [(a2, .inl (cI, 128, .inl (fun _ => 0)))] ++ [(a3, .inl (cI, 128, .inl (fun _ => 0)))]) _ _ := hI
  exact xr_I (fun i => match i with | 0 => a1 | 1 => a2 | _ => a3) hx hb hr hlk hG hI (Nat.le_of_ble_eq_true rfl) (Nat.le_of_ble_eq_true rfl) dX6_init_36
set_option maxHeartbeats 4000000 in
set_option maxRecDepth 100000 in
theorem c_X6_init48 {l : Launch} {D : va_G} {cI cZ cD : ClassId} {q : Nat} : CtI l yX6_init cX6_init 3 1 13 3 144 D (tyL cI cZ cD) [.ref q, .int 48] [(q, .inr (6, [.null, .null, .null, .int 0]))] (fun B => wTab cI 48 q B) := by
  refine CtI.ofW (by decide +kernel) (fun p e s m below meth c hC hin hO hI => ?_)
  obtain ⟨hx, hb, hml, hown, hr, hlk, hG⟩ := hC
  have hown : s.vm.findClass RX6 = some m.cls := hown
  have hin : meth.name = "<init>" := hin
  have hl := lv_entry ([.ref q, .int 48] : List Value) (n := 3) (Nat.le_of_ble_eq_true rfl)
  rw [lg_entry_eq]
  generalize (lg_sl ([.ref q, .int 48] : List Value) ++ List.replicate (3 - (lg_sl ([.ref q, .int 48] : List Value)).length) Slot.unset).toArray = ls at hl ⊢
  have hl : lv_has ls 3 [(0, .ref q), (1, .int 48)] := hl
  refine lv_aload_n hx hb dX6_init_0 rfl (lv_at hl 0 rfl) ?_
  refine xn_obj (rest := []) hx hb hml hl.1 hown hG km_X6_3 dX6_init_1 (Nat.le_of_ble_eq_true rfl) (Nat.le_of_ble_eq_true rfl) ?_
  refine lv_aload_n hx hb dX6_init_4 rfl (lv_at hl 0 rfl) ?_
  refine lv_iconst (v := 0) hx hb dX6_init_5 (by decide) ?_
  refine xn_put (own := RX6) (C := RX6) (T := TX6) (N := 4) (ci := 6) (ty := .int) (v := .int 0) hx hb hown hG hI 0 rfl rfl inX6 tyX6 tyX6_ok nmX6 3 (by decide) kf_X6_9 rfl (by decide +kernel) (by decide +kernel) (by decide +kernel) (Nat.le_of_ble_eq_true rfl) dX6_init_6 (fun H locs hI => ?_)
  have hI : xI D (va_A [(q, .inr (6, [.null, .null, .null, .int 0]))] s.heap.size) s.heap ([(q, .inr (6, [.null, .null, .null, .int 0]))]) _ _ := hI
  refine lv_iload_n hx hb dX6_init_9 rfl (lv_at hl 1 rfl) ?_
  refine lv_iconst (v := 0) hx hb dX6_init_10 (by decide) ?_
  refine va_mmax hx hb (hml.trans hl.1.symm) hown (hG.2 _ km_X6_15 _) (hG.2 _ k_maxs _) (hG.2 _ ki_J9 _) (hG.2 _ k_maxc _) (Nat.le_of_ble_eq_true rfl) (Nat.le_of_ble_eq_true rfl) (Nat.le_of_ble_eq_true rfl) (Nat.le_of_ble_eq_true rfl) dX6_init_11 ?_
  rw [show (if (48 : Int32) < 0 then (0 : Int32) else 48) = 48 from by decide]
  refine lv_istore_n (lv' := [(2, .int 48), (0, .ref q), (1, .int 48)]) hx hb dX6_init_14 rfl hl (by decide) rfl (fun ls hl => ?_)
  refine lv_aload_n hx hb dX6_init_15 rfl (lv_at hl 1 rfl) ?_
  refine lv_iload_n hx hb dX6_init_16 rfl (lv_at hl 0 rfl) ?_
  refine xn_newI (N' := 48) hx hb hG hI xA_of 0 rfl (by decide) (by decide) (Nat.le_of_ble_eq_true rfl) (Nat.le_of_ble_eq_true rfl) (Nat.le_of_ble_eq_true rfl) dX6_init_17 (fun a1 H hI => ?_)
  have hI : xI D (va_A [(q, .inr (6, [.null, .null, .null, .int 0]))] s.heap.size) s.heap ([(q, .inr (6, [.null, .null, .null, .int 0]))] ++ [(a1, .inl (cI, 48, .inl (fun _ => 0)))]) _ _ := hI
  refine xn_putF (own := RX6) (C := RX6) (T := TX6) (N := 4) (ci := 6) (ty := .array .int) (v := .ref a1) hx hb hown hG hI 0 rfl rfl inX6 tyX6 tyX6_ok nmX6 0 (by decide) kf_X6_21 rfl hin rfl (by decide +kernel) rfl rfl (Nat.le_of_ble_eq_true rfl) dX6_init_19 (fun H locs hI => ?_)
  have hI : xI D (va_A [(q, .inr (6, [.null, .null, .null, .int 0]))] s.heap.size) s.heap ([(q, .inr (6, [.ref a1, .null, .null, .int 0]))] ++ [(a1, .inl (cI, 48, .inl (fun _ => 0)))]) _ _ := hI
  refine lv_aload_n hx hb dX6_init_22 rfl (lv_at hl 1 rfl) ?_
  refine lv_iload_n hx hb dX6_init_23 rfl (lv_at hl 0 rfl) ?_
  refine xn_newI (N' := 48) hx hb hG hI xA_of 0 rfl (by decide) (by decide) (Nat.le_of_ble_eq_true rfl) (Nat.le_of_ble_eq_true rfl) (Nat.le_of_ble_eq_true rfl) dX6_init_24 (fun a2 H hI => ?_)
  have hI : xI D (va_A [(q, .inr (6, [.null, .null, .null, .int 0]))] s.heap.size) s.heap ([(q, .inr (6, [.ref a1, .null, .null, .int 0]))] ++ [(a1, .inl (cI, 48, .inl (fun _ => 0)))] ++ [(a2, .inl (cI, 48, .inl (fun _ => 0)))]) _ _ := hI
  refine xn_putF (own := RX6) (C := RX6) (T := TX6) (N := 4) (ci := 6) (ty := .array .int) (v := .ref a2) hx hb hown hG hI 0 rfl rfl inX6 tyX6 tyX6_ok nmX6 1 (by decide) kf_X6_25 rfl hin rfl (by decide +kernel) rfl rfl (Nat.le_of_ble_eq_true rfl) dX6_init_26 (fun H locs hI => ?_)
  have hI : xI D (va_A [(q, .inr (6, [.null, .null, .null, .int 0]))] s.heap.size) s.heap ([(q, .inr (6, [.ref a1, .ref a2, .null, .int 0]))] ++ [(a1, .inl (cI, 48, .inl (fun _ => 0)))] ++ [(a2, .inl (cI, 48, .inl (fun _ => 0)))]) _ _ := hI
  refine lv_aload_n hx hb dX6_init_29 rfl (lv_at hl 1 rfl) ?_
  refine lv_iload_n hx hb dX6_init_30 rfl (lv_at hl 0 rfl) ?_
  refine xn_newI (N' := 48) hx hb hG hI xA_of 0 rfl (by decide) (by decide) (Nat.le_of_ble_eq_true rfl) (Nat.le_of_ble_eq_true rfl) (Nat.le_of_ble_eq_true rfl) dX6_init_31 (fun a3 H hI => ?_)
  have hI : xI D (va_A [(q, .inr (6, [.null, .null, .null, .int 0]))] s.heap.size) s.heap ([(q, .inr (6, [.ref a1, .ref a2, .null, .int 0]))] ++ [(a1, .inl (cI, 48, .inl (fun _ => 0)))] ++ [(a2, .inl (cI, 48, .inl (fun _ => 0)))] ++ [(a3, .inl (cI, 48, .inl (fun _ => 0)))]) _ _ := hI
  refine xn_putF (own := RX6) (C := RX6) (T := TX6) (N := 4) (ci := 6) (ty := .array .int) (v := .ref a3) hx hb hown hG hI 0 rfl rfl inX6 tyX6 tyX6_ok nmX6 2 (by decide) kf_X6_28 rfl hin rfl (by decide +kernel) rfl rfl (Nat.le_of_ble_eq_true rfl) dX6_init_33 (fun H locs hI => ?_)
  have hI : xI D (va_A [(q, .inr (6, [.null, .null, .null, .int 0]))] s.heap.size) s.heap ([(q, .inr (6, [.ref a1, .ref a2, .ref a3, .int 0]))] ++ [(a1, .inl (cI, 48, .inl (fun _ => 0)))] ++ [(a2, .inl (cI, 48, .inl (fun _ => 0)))] ++ [(a3, .inl (cI, 48, .inl (fun _ => 0)))]) _ _ := hI
  exact xr_I (fun i => match i with | 0 => a1 | 1 => a2 | _ => a3) hx hb hr hlk hG hI (Nat.le_of_ble_eq_true rfl) (Nat.le_of_ble_eq_true rfl) dX6_init_36
def wScr (cI : ClassId) (q : Nat) (B : Nat → Nat) : va_W := [(q, .inr (5, [.ref (B 0)]))] ++ wTab cI 48 (B 0) (fun i => B (1 + i))
set_option maxHeartbeats 4000000 in
set_option maxRecDepth 100000 in
theorem c_X5_init {l : Launch} {D : va_G} {cI cZ cD : ClassId} {q : Nat} : CtI l yX5_init cX5_init 1 2 35 4 148 D (tyL cI cZ cD) [.ref q] [(q, .inr (5, [.null]))] (fun B => wScr cI q B) := by
  refine CtI.ofW (by decide +kernel) (fun p e s m below meth c hC hin hO hI => ?_)
  obtain ⟨hx, hb, hml, hown, hr, hlk, hG⟩ := hC
  have hown : s.vm.findClass RX5 = some m.cls := hown
  have hin : meth.name = "<init>" := hin
  have hl := lv_entry ([.ref q] : List Value) (n := 1) (Nat.le_of_ble_eq_true rfl)
  rw [lg_entry_eq]
  generalize (lg_sl ([.ref q] : List Value) ++ List.replicate (1 - (lg_sl ([.ref q] : List Value)).length) Slot.unset).toArray = ls at hl ⊢
  have hl : lv_has ls 1 [(0, .ref q)] := hl
  refine lv_aload_n hx hb dX5_init_0 rfl (lv_at hl 0 rfl) ?_
  refine xn_obj (rest := []) hx hb hml hl.1 hown hG km_X5_3 dX5_init_1 (Nat.le_of_ble_eq_true rfl) (Nat.le_of_ble_eq_true rfl) ?_
  refine lv_aload_n hx hb dX5_init_4 rfl (lv_at hl 0 rfl) ?_
  refine xn_new (ci := 6) (fs := [.null, .null, .null, .int 0]) (C := RX6) (T := TX6) (N := 4) hx hb hown hG hI xA_of inX6 tyX6 tyX6_ok kcl_X5_9 kn_X6 ki_X6 rfl (fun j hj => by rcases (show j = 0 ∨ j = 1 ∨ j = 2 ∨ j = 3 by omega) with rfl | rfl | rfl | rfl <;> rfl) (Nat.le_of_ble_eq_true rfl) (Nat.le_of_ble_eq_true rfl) dX5_init_5 (fun o1 H hI => ?_)
  refine lv_dup hx hb dX5_init_8 rfl ?_
  refine lv_bipush (v := 48) hx hb dX5_init_9 (by decide) ?_
  refine xi_I (ws := [(q, .inr (5, [.null]))]) (w0 := [(o1, .inr (6, [.null, .null, .null, .int 0]))]) (As := [.int 48]) (rest := [.ref o1, .ref q]) (c_X6_init48 (cI := cI) (cZ := cZ) (cD := cD)) mwc_X6_init ki_X6 mwi_X6_init rfl (by decide) (by decide) (by decide +kernel) km_X5_11 hx hb hml hown hG hO hI xA_of ⟨(Nat.le_of_ble_eq_true rfl), (Nat.le_of_ble_eq_true rfl)⟩ ⟨(Nat.le_of_ble_eq_true rfl), (Nat.le_of_ble_eq_true rfl)⟩ rfl hl.1 rfl (Nat.le_of_ble_eq_true rfl) dX5_init_11 (fun B2 H locs hI => ?_)
  have hI : xI D (va_A [(q, .inr (5, [.null]))] s.heap.size) s.heap ([(q, .inr (5, [.null]))] ++ wTab cI 48 o1 B2) _ _ := hI
  refine xn_putF (own := RX5) (C := RX5) (T := TX5) (N := 1) (ci := 5) (ty := .object "MergedOutline$Table") (v := .ref o1) hx hb hown hG hI 0 rfl rfl inX5 tyX5 tyX5_ok nmX5 0 (by decide) kf_X5_14 rfl hin rfl (by decide +kernel) rfl rfl (Nat.le_of_ble_eq_true rfl) dX5_init_14 (fun H locs hI => ?_)
  have hI : xI D (va_A [(q, .inr (5, [.null]))] s.heap.size) s.heap ([(q, .inr (5, [.ref o1]))] ++ wTab cI 48 o1 B2) _ _ := hI
  exact xr_I (fun i => match i with | 0 => o1 | 1 => B2 0 | 2 => B2 1 | _ => B2 2) hx hb hr hlk hG hI (Nat.le_of_ble_eq_true rfl) (Nat.le_of_ble_eq_true rfl) dX5_init_17
def wMat (cI cZ : ClassId) (q : Nat) (B : Nat → Nat) : va_W := [(q, .inr (2, [.ref (B 0), .ref (B 1), .ref (B 2)]))] ++ [(B 0, .inl (cI, 256, .inl (fun _ => 0)))] ++ [(B 1, .inl (cI, 16, .inl (fun _ => 0)))] ++ [(B 2, .inl (cZ, 16, .inl (fun _ => 0)))]
set_option maxHeartbeats 4000000 in
set_option maxRecDepth 100000 in
theorem c_X2_init {l : Launch} {D : va_G} {cI cZ cD : ClassId} {q : Nat} : CtI l yX2_init cX2_init 1 1 12 3 288 D (tyL cI cZ cD) [.ref q] [(q, .inr (2, [.null, .null, .null]))] (fun B => wMat cI cZ q B) := by
  refine CtI.ofW (by decide +kernel) (fun p e s m below meth c hC hin hO hI => ?_)
  obtain ⟨hx, hb, hml, hown, hr, hlk, hG⟩ := hC
  have hown : s.vm.findClass RX2 = some m.cls := hown
  have hin : meth.name = "<init>" := hin
  have hl := lv_entry ([.ref q] : List Value) (n := 1) (Nat.le_of_ble_eq_true rfl)
  rw [lg_entry_eq]
  generalize (lg_sl ([.ref q] : List Value) ++ List.replicate (1 - (lg_sl ([.ref q] : List Value)).length) Slot.unset).toArray = ls at hl ⊢
  have hl : lv_has ls 1 [(0, .ref q)] := hl
  refine lv_aload_n hx hb dX2_init_0 rfl (lv_at hl 0 rfl) ?_
  refine xn_obj (rest := []) hx hb hml hl.1 hown hG km_X2_3 dX2_init_1 (Nat.le_of_ble_eq_true rfl) (Nat.le_of_ble_eq_true rfl) ?_
  refine lv_aload_n hx hb dX2_init_4 rfl (lv_at hl 0 rfl) ?_
  refine lv_sipush (v := 256) hx hb dX2_init_5 (by decide) ?_
  refine xn_newI (N' := 256) hx hb hG hI xA_of 0 rfl (by decide) (by decide) (Nat.le_of_ble_eq_true rfl) (Nat.le_of_ble_eq_true rfl) (Nat.le_of_ble_eq_true rfl) dX2_init_8 (fun a1 H hI => ?_)
  have hI : xI D (va_A [(q, .inr (2, [.null, .null, .null]))] s.heap.size) s.heap ([(q, .inr (2, [.null, .null, .null]))] ++ [(a1, .inl (cI, 256, .inl (fun _ => 0)))]) _ _ := hI
  refine xn_putF (own := RX2) (C := RX2) (T := TX2) (N := 3) (ci := 2) (ty := .array .int) (v := .ref a1) hx hb hown hG hI 0 rfl rfl inX2 tyX2 tyX2_ok nmX2 0 (by decide) kf_X2_9 rfl hin rfl (by decide +kernel) rfl rfl (Nat.le_of_ble_eq_true rfl) dX2_init_10 (fun H locs hI => ?_)
  have hI : xI D (va_A [(q, .inr (2, [.null, .null, .null]))] s.heap.size) s.heap ([(q, .inr (2, [.ref a1, .null, .null]))] ++ [(a1, .inl (cI, 256, .inl (fun _ => 0)))]) _ _ := hI
  refine lv_aload_n hx hb dX2_init_13 rfl (lv_at hl 0 rfl) ?_
  refine lv_bipush (v := 16) hx hb dX2_init_14 (by decide) ?_
  refine xn_newI (N' := 16) hx hb hG hI xA_of 0 rfl (by decide) (by decide) (Nat.le_of_ble_eq_true rfl) (Nat.le_of_ble_eq_true rfl) (Nat.le_of_ble_eq_true rfl) dX2_init_16 (fun a2 H hI => ?_)
  have hI : xI D (va_A [(q, .inr (2, [.null, .null, .null]))] s.heap.size) s.heap ([(q, .inr (2, [.ref a1, .null, .null]))] ++ [(a1, .inl (cI, 256, .inl (fun _ => 0)))] ++ [(a2, .inl (cI, 16, .inl (fun _ => 0)))]) _ _ := hI
  refine xn_putF (own := RX2) (C := RX2) (T := TX2) (N := 3) (ci := 2) (ty := .array .int) (v := .ref a2) hx hb hown hG hI 0 rfl rfl inX2 tyX2 tyX2_ok nmX2 1 (by decide) kf_X2_15 rfl hin rfl (by decide +kernel) rfl rfl (Nat.le_of_ble_eq_true rfl) dX2_init_18 (fun H locs hI => ?_)
  have hI : xI D (va_A [(q, .inr (2, [.null, .null, .null]))] s.heap.size) s.heap ([(q, .inr (2, [.ref a1, .ref a2, .null]))] ++ [(a1, .inl (cI, 256, .inl (fun _ => 0)))] ++ [(a2, .inl (cI, 16, .inl (fun _ => 0)))]) _ _ := hI
  refine lv_aload_n hx hb dX2_init_21 rfl (lv_at hl 0 rfl) ?_
  refine lv_bipush (v := 16) hx hb dX2_init_22 (by decide) ?_
  refine xn_newZ (N' := 16) hx hb hG hI xA_of 1 rfl (by decide) (by decide) (Nat.le_of_ble_eq_true rfl) (Nat.le_of_ble_eq_true rfl) (Nat.le_of_ble_eq_true rfl) dX2_init_24 (fun a3 H hI => ?_)
  have hI : xI D (va_A [(q, .inr (2, [.null, .null, .null]))] s.heap.size) s.heap ([(q, .inr (2, [.ref a1, .ref a2, .null]))] ++ [(a1, .inl (cI, 256, .inl (fun _ => 0)))] ++ [(a2, .inl (cI, 16, .inl (fun _ => 0)))] ++ [(a3, .inl (cZ, 16, .inl (fun _ => 0)))]) _ _ := hI
  refine xn_putF (own := RX2) (C := RX2) (T := TX2) (N := 3) (ci := 2) (ty := .array .boolean) (v := .ref a3) hx hb hown hG hI 0 rfl rfl inX2 tyX2 tyX2_ok nmX2 2 (by decide) kf_X2_18 rfl hin rfl (by decide +kernel) rfl rfl (Nat.le_of_ble_eq_true rfl) dX2_init_26 (fun H locs hI => ?_)
  have hI : xI D (va_A [(q, .inr (2, [.null, .null, .null]))] s.heap.size) s.heap ([(q, .inr (2, [.ref a1, .ref a2, .ref a3]))] ++ [(a1, .inl (cI, 256, .inl (fun _ => 0)))] ++ [(a2, .inl (cI, 16, .inl (fun _ => 0)))] ++ [(a3, .inl (cZ, 16, .inl (fun _ => 0)))]) _ _ := hI
  exact xr_I (fun i => match i with | 0 => a1 | 1 => a2 | _ => a3) hx hb hr hlk hG hI (Nat.le_of_ble_eq_true rfl) (Nat.le_of_ble_eq_true rfl) dX2_init_29
def wTyp (cI : ClassId) (q : Nat) (B : Nat → Nat) : va_W := [(q, .inr (7, [.ref (B 0), .ref (B 1), .int 0, .int 0, .int 0, .int 0, .int 0, .int 0]))] ++ [(B 0, .inl (cI, 150, .inl (fun _ => 0)))] ++ [(B 1, .inl (cI, 450, .inl (fun _ => 0)))]
set_option maxHeartbeats 4000000 in
set_option maxRecDepth 100000 in
theorem c_X7_init {l : Launch} {D : va_G} {cI cZ cD : ClassId} {q : Nat} : CtI l yX7_init cX7_init 1 1 12 2 600 D (tyL cI cZ cD) [.ref q] [(q, .inr (7, [.null, .null, .int 0, .int 0, .int 0, .int 0, .int 0, .int 0]))] (fun B => wTyp cI q B) := by
  refine CtI.ofW (by decide +kernel) (fun p e s m below meth c hC hin hO hI => ?_)
  obtain ⟨hx, hb, hml, hown, hr, hlk, hG⟩ := hC
  have hown : s.vm.findClass RX7 = some m.cls := hown
  have hin : meth.name = "<init>" := hin
  have hl := lv_entry ([.ref q] : List Value) (n := 1) (Nat.le_of_ble_eq_true rfl)
  rw [lg_entry_eq]
  generalize (lg_sl ([.ref q] : List Value) ++ List.replicate (1 - (lg_sl ([.ref q] : List Value)).length) Slot.unset).toArray = ls at hl ⊢
  have hl : lv_has ls 1 [(0, .ref q)] := hl
  refine lv_aload_n hx hb dX7_init_0 rfl (lv_at hl 0 rfl) ?_
  refine xn_obj (rest := []) hx hb hml hl.1 hown hG km_X7_3 dX7_init_1 (Nat.le_of_ble_eq_true rfl) (Nat.le_of_ble_eq_true rfl) ?_
  refine lv_aload_n hx hb dX7_init_4 rfl (lv_at hl 0 rfl) ?_
  refine lv_sipush (v := 150) hx hb dX7_init_5 (by decide) ?_
  refine xn_newI (N' := 150) hx hb hG hI xA_of 0 rfl (by decide) (by decide) (Nat.le_of_ble_eq_true rfl) (Nat.le_of_ble_eq_true rfl) (Nat.le_of_ble_eq_true rfl) dX7_init_8 (fun a1 H hI => ?_)
  have hI : xI D (va_A [(q, .inr (7, [.null, .null, .int 0, .int 0, .int 0, .int 0, .int 0, .int 0]))] s.heap.size) s.heap ([(q, .inr (7, [.null, .null, .int 0, .int 0, .int 0, .int 0, .int 0, .int 0]))] ++ [(a1, .inl (cI, 150, .inl (fun _ => 0)))]) _ _ := hI
  refine xn_putF (own := RX7) (C := RX7) (T := TX7) (N := 8) (ci := 7) (ty := .array .int) (v := .ref a1) hx hb hown hG hI 0 rfl rfl inX7 tyX7 tyX7_ok nmX7 0 (by decide) kf_X7_9 rfl hin rfl (by decide +kernel) rfl rfl (Nat.le_of_ble_eq_true rfl) dX7_init_10 (fun H locs hI => ?_)
  have hI : xI D (va_A [(q, .inr (7, [.null, .null, .int 0, .int 0, .int 0, .int 0, .int 0, .int 0]))] s.heap.size) s.heap ([(q, .inr (7, [.ref a1, .null, .int 0, .int 0, .int 0, .int 0, .int 0, .int 0]))] ++ [(a1, .inl (cI, 150, .inl (fun _ => 0)))]) _ _ := hI
  refine lv_aload_n hx hb dX7_init_13 rfl (lv_at hl 0 rfl) ?_
  refine lv_sipush (v := 450) hx hb dX7_init_14 (by decide) ?_
  refine xn_newI (N' := 450) hx hb hG hI xA_of 0 rfl (by decide) (by decide) (Nat.le_of_ble_eq_true rfl) (Nat.le_of_ble_eq_true rfl) (Nat.le_of_ble_eq_true rfl) dX7_init_17 (fun a2 H hI => ?_)
  have hI : xI D (va_A [(q, .inr (7, [.null, .null, .int 0, .int 0, .int 0, .int 0, .int 0, .int 0]))] s.heap.size) s.heap ([(q, .inr (7, [.ref a1, .null, .int 0, .int 0, .int 0, .int 0, .int 0, .int 0]))] ++ [(a1, .inl (cI, 150, .inl (fun _ => 0)))] ++ [(a2, .inl (cI, 450, .inl (fun _ => 0)))]) _ _ := hI
  refine xn_putF (own := RX7) (C := RX7) (T := TX7) (N := 8) (ci := 7) (ty := .array .int) (v := .ref a2) hx hb hown hG hI 0 rfl rfl inX7 tyX7 tyX7_ok nmX7 1 (by decide) kf_X7_15 rfl hin rfl (by decide +kernel) rfl rfl (Nat.le_of_ble_eq_true rfl) dX7_init_19 (fun H locs hI => ?_)
  have hI : xI D (va_A [(q, .inr (7, [.null, .null, .int 0, .int 0, .int 0, .int 0, .int 0, .int 0]))] s.heap.size) s.heap ([(q, .inr (7, [.ref a1, .ref a2, .int 0, .int 0, .int 0, .int 0, .int 0, .int 0]))] ++ [(a1, .inl (cI, 150, .inl (fun _ => 0)))] ++ [(a2, .inl (cI, 450, .inl (fun _ => 0)))]) _ _ := hI
  refine lv_aload_n hx hb dX7_init_22 rfl (lv_at hl 0 rfl) ?_
  refine lv_iconst (v := 0) hx hb dX7_init_23 (by decide) ?_
  refine xn_put (own := RX7) (C := RX7) (T := TX7) (N := 8) (ci := 7) (ty := .int) (v := .int 0) hx hb hown hG hI 0 rfl rfl inX7 tyX7 tyX7_ok nmX7 2 (by decide) kf_X7_18 rfl (by decide +kernel) (by decide +kernel) (by decide +kernel) (Nat.le_of_ble_eq_true rfl) dX7_init_24 (fun H locs hI => ?_)
  have hI : xI D (va_A [(q, .inr (7, [.null, .null, .int 0, .int 0, .int 0, .int 0, .int 0, .int 0]))] s.heap.size) s.heap ([(q, .inr (7, [.ref a1, .ref a2, .int 0, .int 0, .int 0, .int 0, .int 0, .int 0]))] ++ [(a1, .inl (cI, 150, .inl (fun _ => 0)))] ++ [(a2, .inl (cI, 450, .inl (fun _ => 0)))]) _ _ := hI
  refine lv_aload_n hx hb dX7_init_27 rfl (lv_at hl 0 rfl) ?_
  refine lv_iconst (v := 0) hx hb dX7_init_28 (by decide) ?_
  refine xn_put (own := RX7) (C := RX7) (T := TX7) (N := 8) (ci := 7) (ty := .int) (v := .int 0) hx hb hown hG hI 0 rfl rfl inX7 tyX7 tyX7_ok nmX7 3 (by decide) kf_X7_22 rfl (by decide +kernel) (by decide +kernel) (by decide +kernel) (Nat.le_of_ble_eq_true rfl) dX7_init_29 (fun H locs hI => ?_)
  have hI : xI D (va_A [(q, .inr (7, [.null, .null, .int 0, .int 0, .int 0, .int 0, .int 0, .int 0]))] s.heap.size) s.heap ([(q, .inr (7, [.ref a1, .ref a2, .int 0, .int 0, .int 0, .int 0, .int 0, .int 0]))] ++ [(a1, .inl (cI, 150, .inl (fun _ => 0)))] ++ [(a2, .inl (cI, 450, .inl (fun _ => 0)))]) _ _ := hI
  refine lv_aload_n hx hb dX7_init_32 rfl (lv_at hl 0 rfl) ?_
  refine lv_iconst (v := 0) hx hb dX7_init_33 (by decide) ?_
  refine xn_put (own := RX7) (C := RX7) (T := TX7) (N := 8) (ci := 7) (ty := .boolean) (v := .int 0) hx hb hown hG hI 0 rfl rfl inX7 tyX7 tyX7_ok nmX7 4 (by decide) kf_X7_25 rfl (by decide +kernel) (by decide +kernel) (by decide +kernel) (Nat.le_of_ble_eq_true rfl) dX7_init_34 (fun H locs hI => ?_)
  have hI : xI D (va_A [(q, .inr (7, [.null, .null, .int 0, .int 0, .int 0, .int 0, .int 0, .int 0]))] s.heap.size) s.heap ([(q, .inr (7, [.ref a1, .ref a2, .int 0, .int 0, .int 0, .int 0, .int 0, .int 0]))] ++ [(a1, .inl (cI, 150, .inl (fun _ => 0)))] ++ [(a2, .inl (cI, 450, .inl (fun _ => 0)))]) _ _ := hI
  refine lv_aload_n hx hb dX7_init_37 rfl (lv_at hl 0 rfl) ?_
  refine lv_iconst (v := 0) hx hb dX7_init_38 (by decide) ?_
  refine xn_put (own := RX7) (C := RX7) (T := TX7) (N := 8) (ci := 7) (ty := .int) (v := .int 0) hx hb hown hG hI 0 rfl rfl inX7 tyX7 tyX7_ok nmX7 5 (by decide) kf_X7_29 rfl (by decide +kernel) (by decide +kernel) (by decide +kernel) (Nat.le_of_ble_eq_true rfl) dX7_init_39 (fun H locs hI => ?_)
  have hI : xI D (va_A [(q, .inr (7, [.null, .null, .int 0, .int 0, .int 0, .int 0, .int 0, .int 0]))] s.heap.size) s.heap ([(q, .inr (7, [.ref a1, .ref a2, .int 0, .int 0, .int 0, .int 0, .int 0, .int 0]))] ++ [(a1, .inl (cI, 150, .inl (fun _ => 0)))] ++ [(a2, .inl (cI, 450, .inl (fun _ => 0)))]) _ _ := hI
  refine lv_aload_n hx hb dX7_init_42 rfl (lv_at hl 0 rfl) ?_
  refine lv_iconst (v := 0) hx hb dX7_init_43 (by decide) ?_
  refine xn_put (own := RX7) (C := RX7) (T := TX7) (N := 8) (ci := 7) (ty := .int) (v := .int 0) hx hb hown hG hI 0 rfl rfl inX7 tyX7 tyX7_ok nmX7 6 (by decide) kf_X7_32 rfl (by decide +kernel) (by decide +kernel) (by decide +kernel) (Nat.le_of_ble_eq_true rfl) dX7_init_44 (fun H locs hI => ?_)
  have hI : xI D (va_A [(q, .inr (7, [.null, .null, .int 0, .int 0, .int 0, .int 0, .int 0, .int 0]))] s.heap.size) s.heap ([(q, .inr (7, [.ref a1, .ref a2, .int 0, .int 0, .int 0, .int 0, .int 0, .int 0]))] ++ [(a1, .inl (cI, 150, .inl (fun _ => 0)))] ++ [(a2, .inl (cI, 450, .inl (fun _ => 0)))]) _ _ := hI
  refine lv_aload_n hx hb dX7_init_47 rfl (lv_at hl 0 rfl) ?_
  refine lv_iconst (v := 0) hx hb dX7_init_48 (by decide) ?_
  refine xn_put (own := RX7) (C := RX7) (T := TX7) (N := 8) (ci := 7) (ty := .int) (v := .int 0) hx hb hown hG hI 0 rfl rfl inX7 tyX7 tyX7_ok nmX7 7 (by decide) kf_X7_35 rfl (by decide +kernel) (by decide +kernel) (by decide +kernel) (Nat.le_of_ble_eq_true rfl) dX7_init_49 (fun H locs hI => ?_)
  have hI : xI D (va_A [(q, .inr (7, [.null, .null, .int 0, .int 0, .int 0, .int 0, .int 0, .int 0]))] s.heap.size) s.heap ([(q, .inr (7, [.ref a1, .ref a2, .int 0, .int 0, .int 0, .int 0, .int 0, .int 0]))] ++ [(a1, .inl (cI, 150, .inl (fun _ => 0)))] ++ [(a2, .inl (cI, 450, .inl (fun _ => 0)))]) _ _ := hI
  exact xr_I (fun i => match i with | 0 => a1 | _ => a2) hx hb hr hlk hG hI (Nat.le_of_ble_eq_true rfl) (Nat.le_of_ble_eq_true rfl) dX7_init_52
def wMer (cI cZ : ClassId) (q : Nat) (B : Nat → Nat) : va_W := [(q, .inr (3, [.ref (B 0), .ref (B 7), .ref (B 9), .ref (B 13), .ref (B 14), .int 1]))] ++ wDesk cI (B 0) (fun i => B (1 + i)) ++ wOut cI (B 7) (B 8) ++ wTab cI 128 (B 9) (fun i => B (10 + i)) ++ [(B 13, .inl (cZ, 16, .inl (fun _ => 0)))] ++ [(B 14, .inl (cI, 16, .inl (fun _ => 0)))]
set_option maxHeartbeats 4000000 in
set_option maxRecDepth 100000 in
theorem c_X3_init {l : Launch} {D : va_G} {cI cZ cD : ClassId} {q : Nat} : CtI l yX3_init cX3_init 1 4 84 15 749 D (tyL cI cZ cD) [.ref q] [(q, .inr (3, [.null, .null, .null, .null, .null, .int 0]))] (fun B => wMer cI cZ q B) := by
  refine CtI.ofW (by decide +kernel) (fun p e s m below meth c hC hin hO hI => ?_)
  obtain ⟨hx, hb, hml, hown, hr, hlk, hG⟩ := hC
  have hown : s.vm.findClass RX3 = some m.cls := hown
  have hin : meth.name = "<init>" := hin
  have hl := lv_entry ([.ref q] : List Value) (n := 1) (Nat.le_of_ble_eq_true rfl)
  rw [lg_entry_eq]
  generalize (lg_sl ([.ref q] : List Value) ++ List.replicate (1 - (lg_sl ([.ref q] : List Value)).length) Slot.unset).toArray = ls at hl ⊢
  have hl : lv_has ls 1 [(0, .ref q)] := hl
  refine lv_aload_n hx hb dX3_init_0 rfl (lv_at hl 0 rfl) ?_
  refine xn_obj (rest := []) hx hb hml hl.1 hown hG km_X3_3 dX3_init_1 (Nat.le_of_ble_eq_true rfl) (Nat.le_of_ble_eq_true rfl) ?_
  refine lv_aload_n hx hb dX3_init_4 rfl (lv_at hl 0 rfl) ?_
  refine xn_new (ci := 0) (fs := [.null, .null, .null, .int 0, .int 0]) (C := RX0) (T := TX0) (N := 5) hx hb hown hG hI xA_of inX0 tyX0 tyX0_ok kcl_X3_9 kn_X0 ki_X0 rfl (fun j hj => by rcases (show j = 0 ∨ j = 1 ∨ j = 2 ∨ j = 3 ∨ j = 4 by omega) with rfl | rfl | rfl | rfl | rfl <;> rfl) (Nat.le_of_ble_eq_true rfl) (Nat.le_of_ble_eq_true rfl) dX3_init_5 (fun o1 H hI => ?_)
  refine lv_dup hx hb dX3_init_8 rfl ?_
  refine xi_IN (ws := [(q, .inr (3, [.null, .null, .null, .null, .null, .int 0]))]) (w0 := [(o1, .inr (0, [.null, .null, .null, .int 0, .int 0]))]) (As := []) (rest := [.ref o1, .ref q]) (c_X0_init (cI := cI) (cZ := cZ) (cD := cD)) mwc_X0_init ki_X0 mwi_X0_init rfl (by decide) (by decide) (by decide +kernel) km_X3_11 hx hb hml hown hG hO hI xA_of ⟨(Nat.le_of_ble_eq_true rfl), (Nat.le_of_ble_eq_true rfl)⟩ ⟨(Nat.le_of_ble_eq_true rfl), (Nat.le_of_ble_eq_true rfl)⟩ rfl hl.1 rfl (Nat.le_of_ble_eq_true rfl) dX3_init_9 (fun B2 H locs hI => ?_)
  have hI : xI D (va_A [(q, .inr (3, [.null, .null, .null, .null, .null, .int 0]))] s.heap.size) s.heap ([(q, .inr (3, [.null, .null, .null, .null, .null, .int 0]))] ++ wDesk cI o1 B2) _ _ := hI
  refine xn_putF (own := RX3) (C := RX3) (T := TX3) (N := 6) (ci := 3) (ty := .object "MergedOutline$Desk") (v := .ref o1) hx hb hown hG hI 0 rfl rfl inX3 tyX3 tyX3_ok nmX3 0 (by decide) kf_X3_12 rfl hin rfl (by decide +kernel) rfl rfl (Nat.le_of_ble_eq_true rfl) dX3_init_12 (fun H locs hI => ?_)
  have hI : xI D (va_A [(q, .inr (3, [.null, .null, .null, .null, .null, .int 0]))] s.heap.size) s.heap ([(q, .inr (3, [.ref o1, .null, .null, .null, .null, .int 0]))] ++ wDesk cI o1 B2) _ _ := hI
  refine lv_aload_n hx hb dX3_init_15 rfl (lv_at hl 0 rfl) ?_
  refine xn_new (ci := 4) (fs := [.null]) (C := RX4) (T := TX4) (N := 1) hx hb hown hG hI xA_of inX4 tyX4 tyX4_ok kcl_X3_18 kn_X4 ki_X4 rfl (fun j hj => by rcases (show j = 0 by omega) with rfl <;> rfl) (Nat.le_of_ble_eq_true rfl) (Nat.le_of_ble_eq_true rfl) dX3_init_16 (fun o3 H hI => ?_)
  refine lv_dup hx hb dX3_init_19 rfl ?_
  refine xi_I (ws := [(q, .inr (3, [.ref o1, .null, .null, .null, .null, .int 0]))] ++ wDesk cI o1 B2) (w0 := [(o3, .inr (4, [.null]))]) (As := []) (rest := [.ref o3, .ref q]) (c_X4_init (cI := cI) (cZ := cZ) (cD := cD)) mwc_X4_init ki_X4 mwi_X4_init rfl (by decide) (by decide) (by decide +kernel) km_X3_20 hx hb hml hown hG hO hI xA_of ⟨(Nat.le_of_ble_eq_true rfl), (Nat.le_of_ble_eq_true rfl)⟩ ⟨(Nat.le_of_ble_eq_true rfl), (Nat.le_of_ble_eq_true rfl)⟩ rfl hl.1 rfl (Nat.le_of_ble_eq_true rfl) dX3_init_20 (fun B4 H locs hI => ?_)
  have hI : xI D (va_A [(q, .inr (3, [.null, .null, .null, .null, .null, .int 0]))] s.heap.size) s.heap ([(q, .inr (3, [.ref o1, .null, .null, .null, .null, .int 0]))] ++ wDesk cI o1 B2 ++ wOut cI o3 (B4 0)) _ _ := hI
  refine xn_putF (own := RX3) (C := RX3) (T := TX3) (N := 6) (ci := 3) (ty := .object "MergedOutline$Outline") (v := .ref o3) hx hb hown hG hI 0 rfl rfl inX3 tyX3 tyX3_ok nmX3 1 (by decide) kf_X3_21 rfl hin rfl (by decide +kernel) rfl rfl (Nat.le_of_ble_eq_true rfl) dX3_init_23 (fun H locs hI => ?_)
  have hI : xI D (va_A [(q, .inr (3, [.null, .null, .null, .null, .null, .int 0]))] s.heap.size) s.heap ([(q, .inr (3, [.ref o1, .ref o3, .null, .null, .null, .int 0]))] ++ wDesk cI o1 B2 ++ wOut cI o3 (B4 0)) _ _ := hI
  refine lv_aload_n hx hb dX3_init_26 rfl (lv_at hl 0 rfl) ?_
  refine xn_new (ci := 6) (fs := [.null, .null, .null, .int 0]) (C := RX6) (T := TX6) (N := 4) hx hb hown hG hI xA_of inX6 tyX6 tyX6_ok kcl_X3_25 kn_X6 ki_X6 rfl (fun j hj => by rcases (show j = 0 ∨ j = 1 ∨ j = 2 ∨ j = 3 by omega) with rfl | rfl | rfl | rfl <;> rfl) (Nat.le_of_ble_eq_true rfl) (Nat.le_of_ble_eq_true rfl) dX3_init_27 (fun o5 H hI => ?_)
  refine lv_dup hx hb dX3_init_30 rfl ?_
  refine lv_sipush (v := 128) hx hb dX3_init_31 (by decide) ?_
  refine xi_I (ws := [(q, .inr (3, [.ref o1, .ref o3, .null, .null, .null, .int 0]))] ++ wDesk cI o1 B2 ++ wOut cI o3 (B4 0)) (w0 := [(o5, .inr (6, [.null, .null, .null, .int 0]))]) (As := [.int 128]) (rest := [.ref o5, .ref q]) (c_X6_init128 (cI := cI) (cZ := cZ) (cD := cD)) mwc_X6_init ki_X6 mwi_X6_init rfl (by decide) (by decide) (by decide +kernel) km_X3_27 hx hb hml hown hG hO hI xA_of ⟨(Nat.le_of_ble_eq_true rfl), (Nat.le_of_ble_eq_true rfl)⟩ ⟨(Nat.le_of_ble_eq_true rfl), (Nat.le_of_ble_eq_true rfl)⟩ rfl hl.1 rfl (Nat.le_of_ble_eq_true rfl) dX3_init_34 (fun B6 H locs hI => ?_)
  have hI : xI D (va_A [(q, .inr (3, [.null, .null, .null, .null, .null, .int 0]))] s.heap.size) s.heap ([(q, .inr (3, [.ref o1, .ref o3, .null, .null, .null, .int 0]))] ++ wDesk cI o1 B2 ++ wOut cI o3 (B4 0) ++ wTab cI 128 o5 B6) _ _ := hI
  refine xn_putF (own := RX3) (C := RX3) (T := TX3) (N := 6) (ci := 3) (ty := .object "MergedOutline$Table") (v := .ref o5) hx hb hown hG hI 0 rfl rfl inX3 tyX3 tyX3_ok nmX3 2 (by decide) kf_X3_30 rfl hin rfl (by decide +kernel) rfl rfl (Nat.le_of_ble_eq_true rfl) dX3_init_37 (fun H locs hI => ?_)
  have hI : xI D (va_A [(q, .inr (3, [.null, .null, .null, .null, .null, .int 0]))] s.heap.size) s.heap ([(q, .inr (3, [.ref o1, .ref o3, .ref o5, .null, .null, .int 0]))] ++ wDesk cI o1 B2 ++ wOut cI o3 (B4 0) ++ wTab cI 128 o5 B6) _ _ := hI
  refine lv_aload_n hx hb dX3_init_40 rfl (lv_at hl 0 rfl) ?_
  refine lv_bipush (v := 16) hx hb dX3_init_41 (by decide) ?_
  refine xn_newZ (N' := 16) hx hb hG hI xA_of 1 rfl (by decide) (by decide) (Nat.le_of_ble_eq_true rfl) (Nat.le_of_ble_eq_true rfl) (Nat.le_of_ble_eq_true rfl) dX3_init_43 (fun a7 H hI => ?_)
  have hI : xI D (va_A [(q, .inr (3, [.null, .null, .null, .null, .null, .int 0]))] s.heap.size) s.heap ([(q, .inr (3, [.ref o1, .ref o3, .ref o5, .null, .null, .int 0]))] ++ wDesk cI o1 B2 ++ wOut cI o3 (B4 0) ++ wTab cI 128 o5 B6 ++ [(a7, .inl (cZ, 16, .inl (fun _ => 0)))]) _ _ := hI
  refine xn_putF (own := RX3) (C := RX3) (T := TX3) (N := 6) (ci := 3) (ty := .array .boolean) (v := .ref a7) hx hb hown hG hI 0 rfl rfl inX3 tyX3 tyX3_ok nmX3 3 (by decide) kf_X3_34 rfl hin rfl (by decide +kernel) rfl rfl (Nat.le_of_ble_eq_true rfl) dX3_init_45 (fun H locs hI => ?_)
  have hI : xI D (va_A [(q, .inr (3, [.null, .null, .null, .null, .null, .int 0]))] s.heap.size) s.heap ([(q, .inr (3, [.ref o1, .ref o3, .ref o5, .ref a7, .null, .int 0]))] ++ wDesk cI o1 B2 ++ wOut cI o3 (B4 0) ++ wTab cI 128 o5 B6 ++ [(a7, .inl (cZ, 16, .inl (fun _ => 0)))]) _ _ := hI
  refine lv_aload_n hx hb dX3_init_48 rfl (lv_at hl 0 rfl) ?_
  refine lv_bipush (v := 16) hx hb dX3_init_49 (by decide) ?_
  refine xn_newI (N' := 16) hx hb hG hI xA_of 0 rfl (by decide) (by decide) (Nat.le_of_ble_eq_true rfl) (Nat.le_of_ble_eq_true rfl) (Nat.le_of_ble_eq_true rfl) dX3_init_51 (fun a8 H hI => ?_)
  have hI : xI D (va_A [(q, .inr (3, [.null, .null, .null, .null, .null, .int 0]))] s.heap.size) s.heap ([(q, .inr (3, [.ref o1, .ref o3, .ref o5, .ref a7, .null, .int 0]))] ++ wDesk cI o1 B2 ++ wOut cI o3 (B4 0) ++ wTab cI 128 o5 B6 ++ [(a7, .inl (cZ, 16, .inl (fun _ => 0)))] ++ [(a8, .inl (cI, 16, .inl (fun _ => 0)))]) _ _ := hI
  refine xn_putF (own := RX3) (C := RX3) (T := TX3) (N := 6) (ci := 3) (ty := .array .int) (v := .ref a8) hx hb hown hG hI 0 rfl rfl inX3 tyX3 tyX3_ok nmX3 4 (by decide) kf_X3_38 rfl hin rfl (by decide +kernel) rfl rfl (Nat.le_of_ble_eq_true rfl) dX3_init_53 (fun H locs hI => ?_)
  have hI : xI D (va_A [(q, .inr (3, [.null, .null, .null, .null, .null, .int 0]))] s.heap.size) s.heap ([(q, .inr (3, [.ref o1, .ref o3, .ref o5, .ref a7, .ref a8, .int 0]))] ++ wDesk cI o1 B2 ++ wOut cI o3 (B4 0) ++ wTab cI 128 o5 B6 ++ [(a7, .inl (cZ, 16, .inl (fun _ => 0)))] ++ [(a8, .inl (cI, 16, .inl (fun _ => 0)))]) _ _ := hI
  refine lv_aload_n hx hb dX3_init_56 rfl (lv_at hl 0 rfl) ?_
  refine lv_iconst (v := 1) hx hb dX3_init_57 (by decide) ?_
  refine xn_put (own := RX3) (C := RX3) (T := TX3) (N := 6) (ci := 3) (ty := .boolean) (v := .int 1) hx hb hown hG hI 0 rfl rfl inX3 tyX3 tyX3_ok nmX3 5 (by decide) kf_X3_42 rfl (by decide +kernel) (by decide +kernel) (by decide +kernel) (Nat.le_of_ble_eq_true rfl) dX3_init_58 (fun H locs hI => ?_)
  have hI : xI D (va_A [(q, .inr (3, [.null, .null, .null, .null, .null, .int 0]))] s.heap.size) s.heap ([(q, .inr (3, [.ref o1, .ref o3, .ref o5, .ref a7, .ref a8, .int 1]))] ++ wDesk cI o1 B2 ++ wOut cI o3 (B4 0) ++ wTab cI 128 o5 B6 ++ [(a7, .inl (cZ, 16, .inl (fun _ => 0)))] ++ [(a8, .inl (cI, 16, .inl (fun _ => 0)))]) _ _ := hI
  exact xr_I (fun i => match i with | 0 => o1 | 1 => B2 0 | 2 => B2 1 | 3 => B2 2 | 4 => B2 3 | 5 => B2 4 | 6 => B2 5 | 7 => o3 | 8 => B4 0 | 9 => o5 | 10 => B6 0 | 11 => B6 1 | 12 => B6 2 | 13 => a7 | _ => a8) hx hb hr hlk hG hI (Nat.le_of_ble_eq_true rfl) (Nat.le_of_ble_eq_true rfl) dX3_init_61
