/-! ===== PHASE A: the makers of History and of the object (printed by wip/whole/mkparts.py) ===== -/
theorem xI.swap {D : va_G} {A : Nat → Prop} {H0 H : Heap} {locs : List Loc} {ws : va_W} {k a : Nat} {e e' : va_E} (he : ws[k]? = some (a, e)) (hat : va_at D vwCl (a, e) H → va_at D vwCl (a, e') H) (hI : xI D A H0 ws H locs) : xI D A H0 (ws.set k (a, e')) H locs := by
  have hl : k < ws.length := (List.getElem?_eq_some_iff.mp he).1
  have key : ∀ (i : Nat) (x : Nat × va_E), (ws.set k (a, e'))[i]? = some x → ∃ y, ws[i]? = some y ∧ y.1 = x.1 ∧ (i = k → x = (a, e')) ∧ (i ≠ k → x = y) := by
    intro i x hx
    by_cases e1 : i = k
    · subst e1
      rw [List.getElem?_set_self hl] at hx
      cases hx
      exact ⟨(a, e), he, rfl, fun _ => rfl, fun z => absurd rfl z⟩
    · rw [List.getElem?_set_ne (Ne.symm e1)] at hx
      exact ⟨x, hx, rfl, fun z => absurd z e1, fun _ => rfl⟩
  refine ⟨fun i x hx => ?_, ⟨fun i j x y hx hy hxy => ?_, fun i x hx => ?_⟩, hI.2.2⟩
  · obtain ⟨y, h1, h2, h3, h4⟩ := key i x hx
    by_cases e1 : i = k
    · rw [h3 e1]
      exact hat (hI.1 k _ he)
    · rw [h4 e1]; exact hI.1 i y h1
  · obtain ⟨x', g1, g2, -, -⟩ := key i x hx
    obtain ⟨y', g3, g4, -, -⟩ := key j y hy
    exact hI.2.1.1 i j x' y' g1 g3 (by rw [g2, g4]; exact hxy)
  · obtain ⟨x', g1, g2, -, -⟩ := key i x hx
    rw [← g2]; exact hI.2.1.2 i x' g1
theorem arrV_5 {cA : ClassId} {f g : Nat → Value} (h0 : f 0 = g 0) (h1 : f 1 = g 1) (h2 : f 2 = g 2) (h3 : f 3 = g 3) (h4 : f 4 = g 4) : arrV cA 5 f = arrV cA 5 g := by
  unfold arrV
  congr 1
  apply Array.ext (by simp)
  intro i h _
  simp at h ⊢
  rcases (show i = 0 ∨ i = 1 ∨ i = 2 ∨ i = 3 ∨ i = 4 by omega) with rfl | rfl | rfl | rfl | rfl <;> assumption
def wHis (cI cD : ClassId) (q : Nat) (B : Nat → Nat) : va_W := [(q, .inr (1, [.ref (B 0), .int 0, .int 0]))] ++ [(B 0, .inl (cD, 5, .inr (.inr (.inr (.inr (fun k => if k < 5 then some (B (1 + 7 * k)) else none))))))] ++ wDesk cI (B 1) (fun i => B (2 + i)) ++ wDesk cI (B 8) (fun i => B (9 + i)) ++ wDesk cI (B 15) (fun i => B (16 + i)) ++ wDesk cI (B 22) (fun i => B (23 + i)) ++ wDesk cI (B 29) (fun i => B (30 + i))
set_option maxHeartbeats 4000000 in
set_option maxRecDepth 100000 in
theorem c_X1_init {l : Launch} {D : va_G} {cI cZ cD : ClassId} {q : Nat} : CtI l yX1_init cX1_init 2 4 84 36 1245 D (tyL cI cZ cD) [.ref q] [(q, .inr (1, [.null, .int 0, .int 0]))] (fun B => wHis cI cD q B) := by
  refine CtI.ofW (by decide +kernel) (fun p e s m below meth c hC hin hO hI => ?_)
  obtain ⟨hx, hb, hml, hown, hr, hlk, hG⟩ := hC
  have hown : s.vm.findClass RX1 = some m.cls := hown
  have hin : meth.name = "<init>" := hin
  have hl := lv_entry ([.ref q] : List Value) (n := 2) (Nat.le_of_ble_eq_true rfl)
  rw [lg_entry_eq]
  generalize (lg_sl ([.ref q] : List Value) ++ List.replicate (2 - (lg_sl ([.ref q] : List Value)).length) Slot.unset).toArray = ls at hl ⊢
  have hl : lv_has ls 2 [(0, .ref q)] := hl
  refine lv_aload_n hx hb dX1_init_0 rfl (lv_at hl 0 rfl) ?_
  refine xn_obj (rest := []) hx hb hml hl.1 hown hG km_X1_3 dX1_init_1 (Nat.le_of_ble_eq_true rfl) (Nat.le_of_ble_eq_true rfl) ?_
  refine lv_aload_n hx hb dX1_init_4 rfl (lv_at hl 0 rfl) ?_
  refine lv_iconst (v := 5) hx hb dX1_init_5 (by decide) ?_
  refine xn_newD (N' := 5) hx hb hown hG hO hI xA_of kcl_X1_9 2 rfl (by decide) (by decide) (Nat.le_of_ble_eq_true rfl) (Nat.le_of_ble_eq_true rfl) (Nat.le_of_ble_eq_true rfl) dX1_init_6 (fun k0 H hI => ?_)
  have hI : xI D (va_A [(q, .inr (1, [.null, .int 0, .int 0]))] s.heap.size) s.heap ([(q, .inr (1, [.null, .int 0, .int 0]))] ++ [(k0, .inl (cD, 5, .inr (.inr (.inr (.inr (fun _ => none))))))]) _ _ := hI
  refine xn_putF (own := RX1) (C := RX1) (T := TX1) (N := 3) (ci := 1) (ty := .array (.object "MergedOutline$Desk")) (v := .ref k0) hx hb hown hG hI 0 rfl rfl inX1 tyX1 tyX1_ok nmX1 0 (by decide) kf_X1_11 rfl hin rfl (by decide +kernel) rfl rfl (Nat.le_of_ble_eq_true rfl) dX1_init_9 (fun H locs hI => ?_)
  have hI : xI D (va_A [(q, .inr (1, [.null, .int 0, .int 0]))] s.heap.size) s.heap ([(q, .inr (1, [.ref k0, .int 0, .int 0]))] ++ [(k0, .inl (cD, 5, .inr (.inr (.inr (.inr (fun _ => none))))))]) _ _ := hI
  refine lv_aload_n hx hb dX1_init_12 rfl (lv_at hl 0 rfl) ?_
  refine lv_iconst (v := 0) hx hb dX1_init_13 (by decide) ?_
  refine xn_put (own := RX1) (C := RX1) (T := TX1) (N := 3) (ci := 1) (ty := .int) (v := .int 0) hx hb hown hG hI 0 rfl rfl inX1 tyX1 tyX1_ok nmX1 1 (by decide) kf_X1_17 rfl (by decide +kernel) (by decide +kernel) (by decide +kernel) (Nat.le_of_ble_eq_true rfl) dX1_init_14 (fun H locs hI => ?_)
  have hI : xI D (va_A [(q, .inr (1, [.null, .int 0, .int 0]))] s.heap.size) s.heap ([(q, .inr (1, [.ref k0, .int 0, .int 0]))] ++ [(k0, .inl (cD, 5, .inr (.inr (.inr (.inr (fun _ => none))))))]) _ _ := hI
  refine lv_aload_n hx hb dX1_init_17 rfl (lv_at hl 0 rfl) ?_
  refine lv_iconst (v := 0) hx hb dX1_init_18 (by decide) ?_
  refine xn_put (own := RX1) (C := RX1) (T := TX1) (N := 3) (ci := 1) (ty := .int) (v := .int 0) hx hb hown hG hI 0 rfl rfl inX1 tyX1 tyX1_ok nmX1 2 (by decide) kf_X1_21 rfl (by decide +kernel) (by decide +kernel) (by decide +kernel) (Nat.le_of_ble_eq_true rfl) dX1_init_19 (fun H locs hI => ?_)
  have hI : xI D (va_A [(q, .inr (1, [.null, .int 0, .int 0]))] s.heap.size) s.heap ([(q, .inr (1, [.ref k0, .int 0, .int 0]))] ++ [(k0, .inl (cD, 5, .inr (.inr (.inr (.inr (fun _ => none))))))]) _ _ := hI
  refine lv_iconst (v := 0) hx hb dX1_init_22 (by decide) ?_
  refine lv_istore_n (lv' := [(1, .int 0), (0, .ref q)]) hx hb dX1_init_23 rfl hl (by decide) rfl (fun ls hl => ?_)
  refine lv_iload_n hx hb dX1_init_24 rfl (lv_at hl 0 rfl) ?_
  refine lv_iconst (v := 5) hx hb dX1_init_25 (by decide) ?_
  refine lv_icmp_ge (tgt := 48) hx hb dX1_init_26 (by decide) (fun cc0 => absurd cc0 (by decide)) (fun _ => ?_)
  refine lv_aload_n hx hb dX1_init_29 rfl (lv_at hl 1 rfl) ?_
  refine va_get (Ts := tb) (v := .ref k0) (C := RX1) (T := TX1) (N := 3) (ci := 1) hx hb (fun w h => hG.2 w h _) inX1 hown hG.1 hI.1 0 rfl rfl 0 (by decide) (hG.2 _ kf_X1_11 _) (fun _ h => h) rfl dX1_init_30 ?_
  refine lv_iload_n hx hb dX1_init_33 rfl (lv_at hl 0 rfl) ?_
  refine xn_new (ci := 0) (fs := [.null, .null, .null, .int 0, .int 0]) (C := RX0) (T := TX0) (N := 5) hx hb hown hG hI xA_of inX0 tyX0 tyX0_ok kcl_X1_9 kn_X0 ki_X0 rfl (fun j hj => by rcases (show j = 0 ∨ j = 1 ∨ j = 2 ∨ j = 3 ∨ j = 4 by omega) with rfl | rfl | rfl | rfl | rfl <;> rfl) (Nat.le_of_ble_eq_true rfl) (Nat.le_of_ble_eq_true rfl) dX1_init_34 (fun o1 H hI => ?_)
  refine lv_dup hx hb dX1_init_37 rfl ?_
  refine xi_IN (ws := [(q, .inr (1, [.ref k0, .int 0, .int 0]))] ++ [(k0, .inl (cD, 5, .inr (.inr (.inr (.inr (fun _ => none))))))]) (w0 := [(o1, .inr (0, [.null, .null, .null, .int 0, .int 0]))]) (As := []) (rest := [.ref o1, .int 0, .ref k0]) (c_X0_init (cI := cI) (cZ := cZ) (cD := cD)) mwc_X0_init ki_X0 mwi_X0_init rfl (by decide) (by decide) (by decide +kernel) km_X1_24 hx hb hml hown hG hO hI xA_of ⟨(Nat.le_of_ble_eq_true rfl), (Nat.le_of_ble_eq_true rfl)⟩ ⟨(Nat.le_of_ble_eq_true rfl), (Nat.le_of_ble_eq_true rfl)⟩ rfl hl.1 rfl (Nat.le_of_ble_eq_true rfl) dX1_init_38 (fun B2 H locs hI => ?_)
  have hI : xI D (va_A [(q, .inr (1, [.null, .int 0, .int 0]))] s.heap.size) s.heap ([(q, .inr (1, [.ref k0, .int 0, .int 0]))] ++ [(k0, .inl (cD, 5, .inr (.inr (.inr (.inr (fun _ => none))))))] ++ wDesk cI o1 B2) _ _ := hI
  refine va_astq (r := (RX0, TX0, 5)) hx hb hG.1 hI.1 hI.2.1 hI.2.2 1 2 2 0 rfl rfl rfl rfl (show ¬ ((0 : Int32) < 0 ∨ 5 ≤ (0 : Int32).toNatClampNeg) by decide) dX1_init_41 (fun H locs h1 h2 h3 => ?_)
  have hI : xI D (va_A [(q, .inr (1, [.null, .int 0, .int 0]))] s.heap.size) s.heap ([(q, .inr (1, [.ref k0, .int 0, .int 0]))] ++ [(k0, .inl (cD, 5, .inr (.inr (.inr (.inr (va_up (fun _ => none) 0 (some o1)))))))] ++ wDesk cI o1 B2) H locs := ⟨h1, h2, h3⟩
  refine lv_iinc (v := 1) (lv' := [(1, .int 1), (0, .ref q)]) hx hb dX1_init_42 hl (k := 0) rfl (by decide) (by decide) rfl (fun ls hl => ?_)
  refine lv_goto (tgt := 24) hx hb dX1_init_45 (by decide) ?_
  refine lv_iload_n hx hb dX1_init_24 rfl (lv_at hl 0 rfl) ?_
  refine lv_iconst (v := 5) hx hb dX1_init_25 (by decide) ?_
  refine lv_icmp_ge (tgt := 48) hx hb dX1_init_26 (by decide) (fun cc0 => absurd cc0 (by decide)) (fun _ => ?_)
  refine lv_aload_n hx hb dX1_init_29 rfl (lv_at hl 1 rfl) ?_
  refine va_get (Ts := tb) (v := .ref k0) (C := RX1) (T := TX1) (N := 3) (ci := 1) hx hb (fun w h => hG.2 w h _) inX1 hown hG.1 hI.1 0 rfl rfl 0 (by decide) (hG.2 _ kf_X1_11 _) (fun _ h => h) rfl dX1_init_30 ?_
  refine lv_iload_n hx hb dX1_init_33 rfl (lv_at hl 0 rfl) ?_
  refine xn_new (ci := 0) (fs := [.null, .null, .null, .int 0, .int 0]) (C := RX0) (T := TX0) (N := 5) hx hb hown hG hI xA_of inX0 tyX0 tyX0_ok kcl_X1_9 kn_X0 ki_X0 rfl (fun j hj => by rcases (show j = 0 ∨ j = 1 ∨ j = 2 ∨ j = 3 ∨ j = 4 by omega) with rfl | rfl | rfl | rfl | rfl <;> rfl) (Nat.le_of_ble_eq_true rfl) (Nat.le_of_ble_eq_true rfl) dX1_init_34 (fun o3 H hI => ?_)
  refine lv_dup hx hb dX1_init_37 rfl ?_
  refine xi_IN (ws := [(q, .inr (1, [.ref k0, .int 0, .int 0]))] ++ [(k0, .inl (cD, 5, .inr (.inr (.inr (.inr (va_up (fun _ => none) 0 (some o1)))))))] ++ wDesk cI o1 B2) (w0 := [(o3, .inr (0, [.null, .null, .null, .int 0, .int 0]))]) (As := []) (rest := [.ref o3, .int 1, .ref k0]) (c_X0_init (cI := cI) (cZ := cZ) (cD := cD)) mwc_X0_init ki_X0 mwi_X0_init rfl (by decide) (by decide) (by decide +kernel) km_X1_24 hx hb hml hown hG hO hI xA_of ⟨(Nat.le_of_ble_eq_true rfl), (Nat.le_of_ble_eq_true rfl)⟩ ⟨(Nat.le_of_ble_eq_true rfl), (Nat.le_of_ble_eq_true rfl)⟩ rfl hl.1 rfl (Nat.le_of_ble_eq_true rfl) dX1_init_38 (fun B4 H locs hI => ?_)
  have hI : xI D (va_A [(q, .inr (1, [.null, .int 0, .int 0]))] s.heap.size) s.heap ([(q, .inr (1, [.ref k0, .int 0, .int 0]))] ++ [(k0, .inl (cD, 5, .inr (.inr (.inr (.inr (va_up (fun _ => none) 0 (some o1)))))))] ++ wDesk cI o1 B2 ++ wDesk cI o3 B4) _ _ := hI
  refine va_astq (r := (RX0, TX0, 5)) hx hb hG.1 hI.1 hI.2.1 hI.2.2 1 2 9 0 rfl rfl rfl rfl (show ¬ ((1 : Int32) < 0 ∨ 5 ≤ (1 : Int32).toNatClampNeg) by decide) dX1_init_41 (fun H locs h1 h2 h3 => ?_)
  have hI : xI D (va_A [(q, .inr (1, [.null, .int 0, .int 0]))] s.heap.size) s.heap ([(q, .inr (1, [.ref k0, .int 0, .int 0]))] ++ [(k0, .inl (cD, 5, .inr (.inr (.inr (.inr (va_up (va_up (fun _ => none) 0 (some o1)) 1 (some o3)))))))] ++ wDesk cI o1 B2 ++ wDesk cI o3 B4) H locs := ⟨h1, h2, h3⟩
  refine lv_iinc (v := 2) (lv' := [(1, .int 2), (0, .ref q)]) hx hb dX1_init_42 hl (k := 0) rfl (by decide) (by decide) rfl (fun ls hl => ?_)
  refine lv_goto (tgt := 24) hx hb dX1_init_45 (by decide) ?_
  refine lv_iload_n hx hb dX1_init_24 rfl (lv_at hl 0 rfl) ?_
  refine lv_iconst (v := 5) hx hb dX1_init_25 (by decide) ?_
  refine lv_icmp_ge (tgt := 48) hx hb dX1_init_26 (by decide) (fun cc0 => absurd cc0 (by decide)) (fun _ => ?_)
  refine lv_aload_n hx hb dX1_init_29 rfl (lv_at hl 1 rfl) ?_
  refine va_get (Ts := tb) (v := .ref k0) (C := RX1) (T := TX1) (N := 3) (ci := 1) hx hb (fun w h => hG.2 w h _) inX1 hown hG.1 hI.1 0 rfl rfl 0 (by decide) (hG.2 _ kf_X1_11 _) (fun _ h => h) rfl dX1_init_30 ?_
  refine lv_iload_n hx hb dX1_init_33 rfl (lv_at hl 0 rfl) ?_
  refine xn_new (ci := 0) (fs := [.null, .null, .null, .int 0, .int 0]) (C := RX0) (T := TX0) (N := 5) hx hb hown hG hI xA_of inX0 tyX0 tyX0_ok kcl_X1_9 kn_X0 ki_X0 rfl (fun j hj => by rcases (show j = 0 ∨ j = 1 ∨ j = 2 ∨ j = 3 ∨ j = 4 by omega) with rfl | rfl | rfl | rfl | rfl <;> rfl) (Nat.le_of_ble_eq_true rfl) (Nat.le_of_ble_eq_true rfl) dX1_init_34 (fun o5 H hI => ?_)
  refine lv_dup hx hb dX1_init_37 rfl ?_
  refine xi_IN (ws := [(q, .inr (1, [.ref k0, .int 0, .int 0]))] ++ [(k0, .inl (cD, 5, .inr (.inr (.inr (.inr (va_up (va_up (fun _ => none) 0 (some o1)) 1 (some o3)))))))] ++ wDesk cI o1 B2 ++ wDesk cI o3 B4) (w0 := [(o5, .inr (0, [.null, .null, .null, .int 0, .int 0]))]) (As := []) (rest := [.ref o5, .int 2, .ref k0]) (c_X0_init (cI := cI) (cZ := cZ) (cD := cD)) mwc_X0_init ki_X0 mwi_X0_init rfl (by decide) (by decide) (by decide +kernel) km_X1_24 hx hb hml hown hG hO hI xA_of ⟨(Nat.le_of_ble_eq_true rfl), (Nat.le_of_ble_eq_true rfl)⟩ ⟨(Nat.le_of_ble_eq_true rfl), (Nat.le_of_ble_eq_true rfl)⟩ rfl hl.1 rfl (Nat.le_of_ble_eq_true rfl) dX1_init_38 (fun B6 H locs hI => ?_)
  have hI : xI D (va_A [(q, .inr (1, [.null, .int 0, .int 0]))] s.heap.size) s.heap ([(q, .inr (1, [.ref k0, .int 0, .int 0]))] ++ [(k0, .inl (cD, 5, .inr (.inr (.inr (.inr (va_up (va_up (fun _ => none) 0 (some o1)) 1 (some o3)))))))] ++ wDesk cI o1 B2 ++ wDesk cI o3 B4 ++ wDesk cI o5 B6) _ _ := hI
  refine va_astq (r := (RX0, TX0, 5)) hx hb hG.1 hI.1 hI.2.1 hI.2.2 1 2 16 0 rfl rfl rfl rfl (show ¬ ((2 : Int32) < 0 ∨ 5 ≤ (2 : Int32).toNatClampNeg) by decide) dX1_init_41 (fun H locs h1 h2 h3 => ?_)
  have hI : xI D (va_A [(q, .inr (1, [.null, .int 0, .int 0]))] s.heap.size) s.heap ([(q, .inr (1, [.ref k0, .int 0, .int 0]))] ++ [(k0, .inl (cD, 5, .inr (.inr (.inr (.inr (va_up (va_up (va_up (fun _ => none) 0 (some o1)) 1 (some o3)) 2 (some o5)))))))] ++ wDesk cI o1 B2 ++ wDesk cI o3 B4 ++ wDesk cI o5 B6) H locs := ⟨h1, h2, h3⟩
  refine lv_iinc (v := 3) (lv' := [(1, .int 3), (0, .ref q)]) hx hb dX1_init_42 hl (k := 0) rfl (by decide) (by decide) rfl (fun ls hl => ?_)
  refine lv_goto (tgt := 24) hx hb dX1_init_45 (by decide) ?_
  refine lv_iload_n hx hb dX1_init_24 rfl (lv_at hl 0 rfl) ?_
  refine lv_iconst (v := 5) hx hb dX1_init_25 (by decide) ?_
  refine lv_icmp_ge (tgt := 48) hx hb dX1_init_26 (by decide) (fun cc0 => absurd cc0 (by decide)) (fun _ => ?_)
  refine lv_aload_n hx hb dX1_init_29 rfl (lv_at hl 1 rfl) ?_
  refine va_get (Ts := tb) (v := .ref k0) (C := RX1) (T := TX1) (N := 3) (ci := 1) hx hb (fun w h => hG.2 w h _) inX1 hown hG.1 hI.1 0 rfl rfl 0 (by decide) (hG.2 _ kf_X1_11 _) (fun _ h => h) rfl dX1_init_30 ?_
  refine lv_iload_n hx hb dX1_init_33 rfl (lv_at hl 0 rfl) ?_
  refine xn_new (ci := 0) (fs := [.null, .null, .null, .int 0, .int 0]) (C := RX0) (T := TX0) (N := 5) hx hb hown hG hI xA_of inX0 tyX0 tyX0_ok kcl_X1_9 kn_X0 ki_X0 rfl (fun j hj => by rcases (show j = 0 ∨ j = 1 ∨ j = 2 ∨ j = 3 ∨ j = 4 by omega) with rfl | rfl | rfl | rfl | rfl <;> rfl) (Nat.le_of_ble_eq_true rfl) (Nat.le_of_ble_eq_true rfl) dX1_init_34 (fun o7 H hI => ?_)
  refine lv_dup hx hb dX1_init_37 rfl ?_
  refine xi_IN (ws := [(q, .inr (1, [.ref k0, .int 0, .int 0]))] ++ [(k0, .inl (cD, 5, .inr (.inr (.inr (.inr (va_up (va_up (va_up (fun _ => none) 0 (some o1)) 1 (some o3)) 2 (some o5)))))))] ++ wDesk cI o1 B2 ++ wDesk cI o3 B4 ++ wDesk cI o5 B6) (w0 := [(o7, .inr (0, [.null, .null, .null, .int 0, .int 0]))]) (As := []) (rest := [.ref o7, .int 3, .ref k0]) (c_X0_init (cI := cI) (cZ := cZ) (cD := cD)) mwc_X0_init ki_X0 mwi_X0_init rfl (by decide) (by decide) (by decide +kernel) km_X1_24 hx hb hml hown hG hO hI xA_of ⟨(Nat.le_of_ble_eq_true rfl), (Nat.le_of_ble_eq_true rfl)⟩ ⟨(Nat.le_of_ble_eq_true rfl), (Nat.le_of_ble_eq_true rfl)⟩ rfl hl.1 rfl (Nat.le_of_ble_eq_true rfl) dX1_init_38 (fun B8 H locs hI => ?_)
  have hI : xI D (va_A [(q, .inr (1, [.null, .int 0, .int 0]))] s.heap.size) s.heap ([(q, .inr (1, [.ref k0, .int 0, .int 0]))] ++ [(k0, .inl (cD, 5, .inr (.inr (.inr (.inr (va_up (va_up (va_up (fun _ => none) 0 (some o1)) 1 (some o3)) 2 (some o5)))))))] ++ wDesk cI o1 B2 ++ wDesk cI o3 B4 ++ wDesk cI o5 B6 ++ wDesk cI o7 B8) _ _ := hI
  refine va_astq (r := (RX0, TX0, 5)) hx hb hG.1 hI.1 hI.2.1 hI.2.2 1 2 23 0 rfl rfl rfl rfl (show ¬ ((3 : Int32) < 0 ∨ 5 ≤ (3 : Int32).toNatClampNeg) by decide) dX1_init_41 (fun H locs h1 h2 h3 => ?_)
  have hI : xI D (va_A [(q, .inr (1, [.null, .int 0, .int 0]))] s.heap.size) s.heap ([(q, .inr (1, [.ref k0, .int 0, .int 0]))] ++ [(k0, .inl (cD, 5, .inr (.inr (.inr (.inr (va_up (va_up (va_up (va_up (fun _ => none) 0 (some o1)) 1 (some o3)) 2 (some o5)) 3 (some o7)))))))] ++ wDesk cI o1 B2 ++ wDesk cI o3 B4 ++ wDesk cI o5 B6 ++ wDesk cI o7 B8) H locs := ⟨h1, h2, h3⟩
  refine lv_iinc (v := 4) (lv' := [(1, .int 4), (0, .ref q)]) hx hb dX1_init_42 hl (k := 0) rfl (by decide) (by decide) rfl (fun ls hl => ?_)
  refine lv_goto (tgt := 24) hx hb dX1_init_45 (by decide) ?_
  refine lv_iload_n hx hb dX1_init_24 rfl (lv_at hl 0 rfl) ?_
  refine lv_iconst (v := 5) hx hb dX1_init_25 (by decide) ?_
  refine lv_icmp_ge (tgt := 48) hx hb dX1_init_26 (by decide) (fun cc0 => absurd cc0 (by decide)) (fun _ => ?_)
  refine lv_aload_n hx hb dX1_init_29 rfl (lv_at hl 1 rfl) ?_
  refine va_get (Ts := tb) (v := .ref k0) (C := RX1) (T := TX1) (N := 3) (ci := 1) hx hb (fun w h => hG.2 w h _) inX1 hown hG.1 hI.1 0 rfl rfl 0 (by decide) (hG.2 _ kf_X1_11 _) (fun _ h => h) rfl dX1_init_30 ?_
  refine lv_iload_n hx hb dX1_init_33 rfl (lv_at hl 0 rfl) ?_
  refine xn_new (ci := 0) (fs := [.null, .null, .null, .int 0, .int 0]) (C := RX0) (T := TX0) (N := 5) hx hb hown hG hI xA_of inX0 tyX0 tyX0_ok kcl_X1_9 kn_X0 ki_X0 rfl (fun j hj => by rcases (show j = 0 ∨ j = 1 ∨ j = 2 ∨ j = 3 ∨ j = 4 by omega) with rfl | rfl | rfl | rfl | rfl <;> rfl) (Nat.le_of_ble_eq_true rfl) (Nat.le_of_ble_eq_true rfl) dX1_init_34 (fun o9 H hI => ?_)
  refine lv_dup hx hb dX1_init_37 rfl ?_
  refine xi_IN (ws := [(q, .inr (1, [.ref k0, .int 0, .int 0]))] ++ [(k0, .inl (cD, 5, .inr (.inr (.inr (.inr (va_up (va_up (va_up (va_up (fun _ => none) 0 (some o1)) 1 (some o3)) 2 (some o5)) 3 (some o7)))))))] ++ wDesk cI o1 B2 ++ wDesk cI o3 B4 ++ wDesk cI o5 B6 ++ wDesk cI o7 B8) (w0 := [(o9, .inr (0, [.null, .null, .null, .int 0, .int 0]))]) (As := []) (rest := [.ref o9, .int 4, .ref k0]) (c_X0_init (cI := cI) (cZ := cZ) (cD := cD)) mwc_X0_init ki_X0 mwi_X0_init rfl (by decide) (by decide) (by decide +kernel) km_X1_24 hx hb hml hown hG hO hI xA_of ⟨(Nat.le_of_ble_eq_true rfl), (Nat.le_of_ble_eq_true rfl)⟩ ⟨(Nat.le_of_ble_eq_true rfl), (Nat.le_of_ble_eq_true rfl)⟩ rfl hl.1 rfl (Nat.le_of_ble_eq_true rfl) dX1_init_38 (fun B10 H locs hI => ?_)
  have hI : xI D (va_A [(q, .inr (1, [.null, .int 0, .int 0]))] s.heap.size) s.heap ([(q, .inr (1, [.ref k0, .int 0, .int 0]))] ++ [(k0, .inl (cD, 5, .inr (.inr (.inr (.inr (va_up (va_up (va_up (va_up (fun _ => none) 0 (some o1)) 1 (some o3)) 2 (some o5)) 3 (some o7)))))))] ++ wDesk cI o1 B2 ++ wDesk cI o3 B4 ++ wDesk cI o5 B6 ++ wDesk cI o7 B8 ++ wDesk cI o9 B10) _ _ := hI
  refine va_astq (r := (RX0, TX0, 5)) hx hb hG.1 hI.1 hI.2.1 hI.2.2 1 2 30 0 rfl rfl rfl rfl (show ¬ ((4 : Int32) < 0 ∨ 5 ≤ (4 : Int32).toNatClampNeg) by decide) dX1_init_41 (fun H locs h1 h2 h3 => ?_)
  have hI : xI D (va_A [(q, .inr (1, [.null, .int 0, .int 0]))] s.heap.size) s.heap ([(q, .inr (1, [.ref k0, .int 0, .int 0]))] ++ [(k0, .inl (cD, 5, .inr (.inr (.inr (.inr (va_up (va_up (va_up (va_up (va_up (fun _ => none) 0 (some o1)) 1 (some o3)) 2 (some o5)) 3 (some o7)) 4 (some o9)))))))] ++ wDesk cI o1 B2 ++ wDesk cI o3 B4 ++ wDesk cI o5 B6 ++ wDesk cI o7 B8 ++ wDesk cI o9 B10) H locs := ⟨h1, h2, h3⟩
  refine lv_iinc (v := 5) (lv' := [(1, .int 5), (0, .ref q)]) hx hb dX1_init_42 hl (k := 0) rfl (by decide) (by decide) rfl (fun ls hl => ?_)
  refine lv_goto (tgt := 24) hx hb dX1_init_45 (by decide) ?_
  refine lv_iload_n hx hb dX1_init_24 rfl (lv_at hl 0 rfl) ?_
  refine lv_iconst (v := 5) hx hb dX1_init_25 (by decide) ?_
  refine lv_icmp_ge (tgt := 48) hx hb dX1_init_26 (by decide) (fun _ => ?_) (fun cc0 => absurd (by decide) cc0)
  have hI := hI.swap (k := 1) (a := k0) (e' := .inl (cD, 5, .inr (.inr (.inr (.inr (fun k => if k < 5 then some (((fun i => match i with | 0 => k0 | 1 => o1 | 2 => B2 0 | 3 => B2 1 | 4 => B2 2 | 5 => B2 3 | 6 => B2 4 | 7 => B2 5 | 8 => o3 | 9 => B4 0 | 10 => B4 1 | 11 => B4 2 | 12 => B4 3 | 13 => B4 4 | 14 => B4 5 | 15 => o5 | 16 => B6 0 | 17 => B6 1 | 18 => B6 2 | 19 => B6 3 | 20 => B6 4 | 21 => B6 5 | 22 => o7 | 23 => B8 0 | 24 => B8 1 | 25 => B8 2 | 26 => B8 3 | 27 => B8 4 | 28 => B8 5 | 29 => o9 | 30 => B10 0 | 31 => B10 1 | 32 => B10 2 | 33 => B10 3 | 34 => B10 4 | _ => B10 5) : Nat → Nat) (1 + 7 * k)) else none)))))) rfl (fun h => by
    show H[k0]? = some (vp_cell cD (5, .inr (.inr (.inr (.inr _)))))
    rw [vp_cell_q]
    have h : H[k0]? = some (vp_cell cD (5, .inr (.inr (.inr (.inr _))))) := h
    rw [vp_cell_q] at h
    rw [h]
    exact congrArg some (arrV_5 rfl rfl rfl rfl rfl))
  exact xr_I (fun i => match i with | 0 => k0 | 1 => o1 | 2 => B2 0 | 3 => B2 1 | 4 => B2 2 | 5 => B2 3 | 6 => B2 4 | 7 => B2 5 | 8 => o3 | 9 => B4 0 | 10 => B4 1 | 11 => B4 2 | 12 => B4 3 | 13 => B4 4 | 14 => B4 5 | 15 => o5 | 16 => B6 0 | 17 => B6 1 | 18 => B6 2 | 19 => B6 3 | 20 => B6 4 | 21 => B6 5 | 22 => o7 | 23 => B8 0 | 24 => B8 1 | 25 => B8 2 | 26 => B8 3 | 27 => B8 4 | 28 => B8 5 | 29 => o9 | 30 => B10 0 | 31 => B10 1 | 32 => B10 2 | 33 => B10 3 | 34 => B10 4 | _ => B10 5) hx hb hr hlk hG hI (Nat.le_of_ble_eq_true rfl) (Nat.le_of_ble_eq_true rfl) dX1_init_48
