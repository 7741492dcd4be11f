/-! ===== THE LAW: its start (printed by wip/whole/mklaw.py) ===== -/
theorem g_start {s : State} (c0 : ClassId) (hT : TB s) (hO : AO s) : ∃ (D : va_G) (cI cZ cD : ClassId), G D (tyL cI cZ cD) s := by
  have kn : ∀ k : Nat, ∃ x : ClassId × (Nat → Nat), ∀ q, vwCl[k]? = some q → u_Kn s q.1 q.2.1 q.2.2 x.1 x.2 := by
    intro k
    have one : ∀ {C : String} {T : u_T} {N n : Nat}, vwCl[k]? = some (C, T, N) → (∀ w ∈ u_ws C T N, w ∈ tb) → Cond.instantiable C n ∈ tb → ∃ x : ClassId × (Nat → Nat), ∀ q, vwCl[k]? = some q → u_Kn s q.1 q.2.1 q.2.2 x.1 x.2 := by
      intro C T N n h1 h2 h3
      obtain ⟨cC, iS, h⟩ := u_known (ws := tb) (args := #[]) (fun w hw => hT w hw #[]) h2 (hT _ h3 #[])
      refine ⟨(cC, iS), fun q hq => ?_⟩
      rw [h1] at hq
      cases hq
      exact h
    match k with
    | 0 => exact one rfl inX0 kn_X0
    | 1 => exact one rfl inX1 kn_X1
    | 2 => exact one rfl inX2 kn_X2
    | 3 => exact one rfl inX3 kn_X3
    | 4 => exact one rfl inX4 kn_X4
    | 5 => exact one rfl inX5 kn_X5
    | 6 => exact one rfl inX6 kn_X6
    | 7 => exact one rfl inX7 kn_X7
    | 8 => exact one rfl inX8 kn_X8
    | 9 => exact one rfl inX9 kn_X9
    | k + 10 => exact ⟨(c0, fun _ => 0), fun q hq => by cases hq⟩
  obtain ⟨f, hf⟩ := Classical.axiomOfChoice kn
  obtain ⟨cI, kI, compI, a1, a2, a3⟩ := Cond.arrayClass_spec (hT _ k_ac_int #[])
  obtain ⟨cZ, kZ, compZ, b1, b2, b3⟩ := Cond.arrayClass_spec (hT _ k_ac_boolean #[])
  obtain ⟨compD, cD, kD, d1, d2, d3, d4, d5⟩ := Cond.arrayOver_spec hO
  refine ⟨(fun k => (f k).1, fun k => (f k).2), cI, cZ, cD, ⟨fun k q hq => hf k q hq, fun k q hq => ?_⟩, hT⟩
  match k with
  | 0 =>
    cases hq
    exact ⟨fun n z => ⟨fun k h => (by cases h), kI, a2, compI, a3⟩, a1⟩
  | 1 =>
    cases hq
    exact ⟨fun n z => ⟨fun k h => (by cases h), kZ, b2, compZ, b3⟩, b1⟩
  | 2 =>
    cases hq
    exact ⟨fun n z => ⟨fun k h => (by cases h), kD, d3, compD, d4⟩, kD, compD, d3, d4, d1, d5⟩
  | k + 3 => cases hq
set_option maxHeartbeats 4000000 in
set_option maxRecDepth 100000 in
theorem whole_start {p : Program} {e : Env} {s : State} {m : MethodId} {below : List Frame} {meth : Method} {c : Code} (l : Launch) (hflags : l.flags = flags0) {b L : Nat} {xs : Nat → Int32} (hL : L ≤ 3072) (C0 : lw_At p s m meth c b L xs) : W p l e room_1 s m #[Value.ref b] below meth c s.heap [] 0 0 (lw_Z below #[Value.ref b] s) (entryFrame m ([Value.ref b] : List Value).toArray 4) := by
  obtain ⟨hx, hb, hr, hml, hown, hts, hX, hbl, hlk, hgv⟩ := C0
  have hown : s.vm.findClass RL = some m.cls := hown
  have hT : TB s := TB.start hts
  have hO : AO s := va_AO.of (hts _ (List.mem_of_getElem? (i := 156) (by decide +kernel)))
  obtain ⟨D, cI, cZ, cD, hG⟩ := g_start m.cls hT hO
  have hI : xI D (nw s) s.heap [] s.heap [] := ⟨fun k q h => (by cases h), ⟨fun i j x y h => (by cases h), fun k q h => (by cases h)⟩, va_S.rf⟩
  have hl := lv_entry ([.ref b] : List Value) (n := 4) (Nat.le_of_ble_eq_true rfl)
  rw [lg_entry_eq]
  generalize (lg_sl ([.ref b] : List Value) ++ List.replicate (4 - (lg_sl ([.ref b] : List Value)).length) Slot.unset).toArray = ls at hl ⊢
  have hl : lv_has ls 4 [(0, .ref b)] := hl
  refine xn_new (ci := 8) (fs := [.null, .null, .null, .null, .null, .null, .null, .int 0, .int 0, .int 0]) (C := RX8) (T := TX8) (N := 10) hx hb hown hG hI (fun _ h => h) inX8 tyX8 tyX8_ok kcl_L_7 kn_X8 ki_X8 rfl (fun j hj => by rcases (show j = 0 ∨ j = 1 ∨ j = 2 ∨ j = 3 ∨ j = 4 ∨ j = 5 ∨ j = 6 ∨ j = 7 ∨ j = 8 ∨ j = 9 by omega) with rfl | rfl | rfl | rfl | rfl | rfl | rfl | rfl | rfl | rfl <;> rfl) (Nat.le_of_ble_eq_true rfl) (Nat.le_of_ble_eq_true rfl) dL_law_0 (fun q H hI => ?_)
  refine lv_dup hx hb dL_law_3 rfl ?_
  refine xi_I (ws := []) (w0 := [(q, .inr (8, [.null, .null, .null, .null, .null, .null, .null, .int 0, .int 0, .int 0]))]) (As := []) (rest := [.ref q]) (c_X8_init (cI := cI) (cZ := cZ) (cD := cD)) mwc_X8_init ki_X8 mwi_X8_init rfl (by decide) (by decide) (by decide +kernel) km_L_9 hx hb hml hown hG hO hI (fun _ h => h) ⟨(Nat.le_of_ble_eq_true rfl), (Nat.le_of_ble_eq_true rfl)⟩ ⟨(Nat.le_of_ble_eq_true rfl), (Nat.le_of_ble_eq_true rfl)⟩ rfl hl.1 rfl (Nat.le_of_ble_eq_true rfl) dL_law_4 (fun B1 H locs hI => ?_)
  have hI : xI D (nw s) s.heap (wAll cI cZ cD q B1) _ _ := hI
  have hI := made hI
  refine lv_astore_n (x := q) (lv' := [(1, .ref q), (0, .ref b)]) hx hb dL_law_7 rfl hl (by decide) rfl (fun ls hl => ?_)
  refine xn_new (ci := 9) (fs := [.null, .null, .null, .null, .int 0, .null, .null, .int 0, .null, .null, .null, .int 0, .null, .int 0, .null, .null, .null, .int 0, .null, .int 0, .int 0, .int 0]) (C := RX9) (T := TX9) (N := 22) hx hb hown hG hI (fun _ h => h) inX9 tyX9 tyX9_ok kcl_L_10 kn_X9 ki_X9 rfl (fun j hj => by rcases (show j = 0 ∨ j = 1 ∨ j = 2 ∨ j = 3 ∨ j = 4 ∨ j = 5 ∨ j = 6 ∨ j = 7 ∨ j = 8 ∨ j = 9 ∨ j = 10 ∨ j = 11 ∨ j = 12 ∨ j = 13 ∨ j = 14 ∨ j = 15 ∨ j = 16 ∨ j = 17 ∨ j = 18 ∨ j = 19 ∨ j = 20 ∨ j = 21 by omega) with rfl | rfl | rfl | rfl | rfl | rfl | rfl | rfl | rfl | rfl | rfl | rfl | rfl | rfl | rfl | rfl | rfl | rfl | rfl | rfl | rfl | rfl <;> rfl) (Nat.le_of_ble_eq_true rfl) (Nat.le_of_ble_eq_true rfl) dL_law_8 (fun y H hI => ?_)
  refine lv_dup hx hb dL_law_11 rfl ?_
  refine xi_I (ws := wX (adX q B1) cI cZ cD u00) (w0 := [(y, .inr (9, [.null, .null, .null, .null, .int 0, .null, .null, .int 0, .null, .null, .null, .int 0, .null, .int 0, .null, .null, .null, .int 0, .null, .int 0, .int 0, .int 0]))]) (As := []) (rest := [.ref y]) (c_X9_init (cI := cI) (cZ := cZ) (cD := cD)) mwc_X9_init ki_X9 mwi_X9_init rfl (by decide) (by decide) (by decide +kernel) km_L_12 hx hb hml hown hG hO hI (fun _ h => h) ⟨(Nat.le_of_ble_eq_true rfl), (Nat.le_of_ble_eq_true rfl)⟩ ⟨(Nat.le_of_ble_eq_true rfl), (Nat.le_of_ble_eq_true rfl)⟩ rfl hl.1 rfl (Nat.le_of_ble_eq_true rfl) dL_law_12 (fun B2 H locs hI => ?_)
  refine lv_astore_n (x := y) (lv' := [(2, .ref y), (1, .ref q), (0, .ref b)]) hx hb dL_law_15 rfl hl (by decide) rfl (fun ls hl => ?_)
  refine lv_iconst (v := 0) hx hb dL_law_16 (by decide) ?_
  refine lv_istore_n (lv' := [(3, .int (nI 0)), (2, .ref y), (1, .ref q), (0, .ref b)]) hx hb dL_law_17 rfl hl (by decide) rfl (fun ls hl => ?_)
  exact law_loop (A := adX q B1) (B := fun i => match i with | 0 => y | k + 1 => B2 k) hx hb hr hlk hml hown hG hX hbl hL ⟨(Nat.le_of_ble_eq_true rfl), (Nat.le_of_ble_eq_true rfl)⟩ (L + 1) 0 u00 (v00 gN) H locs ls (by omega) (by omega) hl rel00 hI
