/-! ===== THE LAW: its loop and its start (printed by wip/whole/mklaw.py) ===== -/
set_option maxRecDepth 100000 in
theorem lw_small : ∀ L, L < 6 → ∀ i, i < 6 → nI L - 6 < nI i := by decide +kernel
theorem lw_last {L i : Nat} (hL : L ≤ 3072) (hi : i ≤ L) : (nI L - 6 < nI i) ↔ L < i + 6 := by
  by_cases h : L < 6
  · exact ⟨fun _ => by omega, fun _ => lw_small L h i (by omega)⟩
  · rw [show nI L - 6 = nI (L - 6) from i_sub (b := 6) (by omega), c_lt (by omega) (by omega)]
    omega
section XW
variable {p : Program} {l : Launch} {e : Env} {s : State} {m : MethodId} {below : List Frame} {meth : Method} {c : Code}
variable {D : va_G} {A B : Nat → Nat} {cI cZ cD : ClassId} {b L : Nat} {xs : Nat → Int32} {cells slots : Nat}
set_option maxHeartbeats 4000000 in
theorem law_loop (hx : p.tables.exec = Jvm.exec) (hb : c.code = code) (hr : meth.sig.returnType = ret) (hlk : meth.locks = false) (hml : c.maxLocals = 4) (hown : s.vm.findClass RL = some m.cls) (hG : G D (tyL cI cZ cD) s) (hX : va_X b L xs s s.heap) (hbl : b < s.heap.size) (hL : L ≤ 3072) (hcl : cells ≤ room_1.cells ∧ slots ≤ room_1.slots) :
    ∀ (n i : Nat) (u v : Mem) (H : Heap) (locs : List Loc) (ls : Array Slot), i ≤ L → L < i + n → lv_has ls 4 (lk4 i (A 58) (B 0) b) → Rel u v → xI D (nw s) s.heap (wX A cI cZ cD u ++ wY B cI v) H locs →
      W p l e room_1 s m #[Value.ref b] below meth c H locs cells slots (lw_Z below #[Value.ref b] s) (F0 m 18 ls []) := by
  intro n
  induction n with
  | zero => intro i u v H locs ls h1 h2; omega
  | succ n ih =>
    intro i u v H locs ls h1 h2 hl hR hI
    refine lv_iload_n hx hb dL_law_18 rfl (lv_at hl 0 rfl) ?_
    refine lv_aload_n hx hb dL_law_19 rfl (lv_at hl 3 rfl) ?_
    refine va_slen hx hb hX hbl (fun h => absurd h (Nat.not_le.mpr hbl)) hI.2.2 dL_law_20 ?_
    refine lv_bipush (v := 6) hx hb dL_law_21 (by decide) ?_
    refine lv_isub hx hb dL_law_23 ?_
    refine lv_icmp_gt (tgt := 836) hx hb dL_law_24 (by decide) (fun _ => ?_) (fun hc => ?_)
    · refine lv_iconst (v := 1) hx hb dL_law_836 (by decide) ?_
      refine va_forget (fun q hq => hI.2.2.2.2 q hq) ?_
      exact W.widen hcl.1 hcl.2 (lw_ret hx hb hr hlk dL_law_837)
    · have hi : i + 6 ≤ L := by
        have hh : ¬ L < i + 6 := fun z => hc ((lw_last hL h1).mpr z)
        omega
      refine lv_aload_n hx hb dL_law_27 rfl (lv_at hl 3 rfl) ?_
      refine lv_iload_n hx hb dL_law_28 rfl (lv_at hl 0 rfl) ?_
      refine va_sld (i := nI i) hx hb hX hbl (fun h => absurd h (Nat.not_le.mpr hbl)) hI.2.2 (fun h => ?_) dL_law_29 ?_
      · rcases h with h | h
        · exact i_nn (by omega) h
        · rw [i_tn (by omega)] at h
          omega
      refine lv_bipush (v := 31) hx hb dL_law_30 (by decide) ?_
      refine lv_iand hx hb dL_law_32 ?_
      generalize (xs (nI i).toNatClampNeg &&& 31) = x
      have kk : ∀ (H : Heap) (locs : List Loc) (u v : Mem), Rel u v → xI D (nw s) s.heap (wX A cI cZ cD u ++ wY B cI v) H locs → W p l e room_1 s m #[Value.ref b] below meth c H locs cells slots (lw_Z below #[Value.ref b] s) (F0 m 830 ls []) := by
        intro H locs u v hR hI
        refine lv_iinc (v := nI (i + 6)) (lv' := lk4 (i + 6) (A 58) (B 0) b) hx hb dL_law_830 hl (k := 0) rfl (nar_6 i) (by decide) rfl (fun ls hl => ?_)
        refine lv_goto (tgt := 18) hx hb dL_law_833 (by decide) ?_
        exact ih (i + 6) u v H locs ls (by omega) (by omega) hl hR hI
      by_cases h0 : x = 0
      · subst h0
        exact lv_tableIn (off := 107) (tgt := 140) hx hb dL_law_33 (by decide) (by decide) (by decide) (by decide) (lc_adds hx hb hml hown hG hX hbl hL hi hl hR hI hcl kk)
      by_cases h1 : x = 1
      · subst h1
        exact lv_tableIn (off := 170) (tgt := 203) hx hb dL_law_33 (by decide) (by decide) (by decide) (by decide) (lc_moves hx hb hml hown hG hX hbl hL hi hl hR hI hcl kk)
      by_cases h2 : x = 2
      · subst h2
        exact lv_tableIn (off := 223) (tgt := 256) hx hb dL_law_33 (by decide) (by decide) (by decide) (by decide) (lc_renames hx hb hml hown hG hX hbl hL hi hl hR hI hcl kk)
      by_cases h3 : x = 3
      · subst h3
        exact lv_tableIn (off := 266) (tgt := 299) hx hb dL_law_33 (by decide) (by decide) (by decide) (by decide) (lc_edits hx hb hml hown hG hX hbl hL hi hl hR hI hcl kk)
      by_cases h4 : x = 4
      · subst h4
        exact lv_tableIn (off := 309) (tgt := 342) hx hb dL_law_33 (by decide) (by decide) (by decide) (by decide) (lc_deletes hx hb hml hown hG hX hbl hL hi hl hR hI hcl kk)
      by_cases h5 : x = 5
      · subst h5
        exact lv_tableIn (off := 342) (tgt := 375) hx hb dL_law_33 (by decide) (by decide) (by decide) (by decide) (lc_forks hx hb hml hown hG hX hbl hL hi hl hR hI hcl kk)
      by_cases h6 : x = 6
      · subst h6
        exact lv_tableIn (off := 355) (tgt := 388) hx hb dL_law_33 (by decide) (by decide) (by decide) (by decide) (lc_prefers hx hb hml hown hG hX hbl hL hi hl hR hI hcl kk)
      by_cases h7 : x = 7
      · subst h7
        exact lv_tableIn (off := 378) (tgt := 411) hx hb dL_law_33 (by decide) (by decide) (by decide) (by decide) (lc_adopts hx hb hml hown hG hX hbl hL hi hl hR hI hcl kk)
      by_cases h8 : x = 8
      · subst h8
        exact lv_tableIn (off := 391) (tgt := 424) hx hb dL_law_33 (by decide) (by decide) (by decide) (by decide) (lc_has hx hb hml hown hG hX hbl hL hi hl hR hI hcl kk)
      by_cases h9 : x = 9
      · subst h9
        exact lv_tableIn (off := 424) (tgt := 457) hx hb dL_law_33 (by decide) (by decide) (by decide) (by decide) (lc_of hx hb hml hown hG hX hbl hL hi hl hR hI hcl kk)
      by_cases h10 : x = 10
      · subst h10
        exact lv_tableIn (off := 467) (tgt := 500) hx hb dL_law_33 (by decide) (by decide) (by decide) (by decide) (lc_walk hx hb hml hown hG hX hbl hL hi hl hR hI hcl kk)
      by_cases h11 : x = 11
      · subst h11
        exact lv_tableIn (off := 500) (tgt := 533) hx hb dL_law_33 (by decide) (by decide) (by decide) (by decide) (lc_size hx hb hml hown hG hX hbl hL hi hl hR hI hcl kk)
      by_cases h12 : x = 12
      · subst h12
        exact lv_tableIn (off := 533) (tgt := 566) hx hb dL_law_33 (by decide) (by decide) (by decide) (by decide) (lc_alike hx hb hml hown hG hX hbl hL hi hl hR hI hcl kk)
      by_cases h13 : x = 13
      · subst h13
        exact lv_tableIn (off := 566) (tgt := 599) hx hb dL_law_33 (by decide) (by decide) (by decide) (by decide) (lc_conflicts hx hb hml hown hG hX hbl hL hi hl hR hI hcl kk)
      by_cases h14 : x = 14
      · subst h14
        exact lv_tableIn (off := 599) (tgt := 632) hx hb dL_law_33 (by decide) (by decide) (by decide) (by decide) (lc_script hx hb hml hown hG hX hbl hL hi hl hR hI hcl kk)
      by_cases h15 : x = 15
      · subst h15
        exact lv_tableIn (off := 642) (tgt := 675) hx hb dL_law_33 (by decide) (by decide) (by decide) (by decide) (lc_matches hx hb hml hown hG hX hbl hL hi hl hR hI hcl kk)
      by_cases h16 : x = 16
      · subst h16
        exact lv_tableIn (off := 675) (tgt := 708) hx hb dL_law_33 (by decide) (by decide) (by decide) (by decide) (lc_told hx hb hml hown hG hX hbl hL hi hl hR hI hcl kk)
      by_cases h17 : x = 17
      · subst h17
        exact lv_tableIn (off := 698) (tgt := 731) hx hb dL_law_33 (by decide) (by decide) (by decide) (by decide) (lc_type hx hb hml hown hG hX hbl hL hi hl hR hI hcl kk)
      by_cases h18 : x = 18
      · subst h18
        exact lv_tableIn (off := 721) (tgt := 754) hx hb dL_law_33 (by decide) (by decide) (by decide) (by decide) (lc_clear hx hb hml hown hG hX hbl hL hi hl hR hI hcl kk)
      by_cases h19 : x = 19
      · subst h19
        exact lv_tableIn (off := 734) (tgt := 767) hx hb dL_law_33 (by decide) (by decide) (by decide) (by decide) (lc_does hx hb hml hown hG hX hbl hL hi hl hR hI hcl kk)
      by_cases h20 : x = 20
      · subst h20
        exact lv_tableIn (off := 747) (tgt := 780) hx hb dL_law_33 (by decide) (by decide) (by decide) (by decide) (lc_back hx hb hml hown hG hX hbl hL hi hl hR hI hcl kk)
      by_cases h21 : x = 21
      · subst h21
        exact lv_tableIn (off := 760) (tgt := 793) hx hb dL_law_33 (by decide) (by decide) (by decide) (by decide) (lc_refused hx hb hml hown hG hX hbl hL hi hl hR hI hcl kk)
      by_cases h22 : x = 22
      · subst h22
        exact lv_tableIn (off := 783) (tgt := 816) hx hb dL_law_33 (by decide) (by decide) (by decide) (by decide) (lc_digest hx hb hml hown hG hX hbl hL hi hl hR hI hcl kk)
      refine xs_dflt (tgt := 830) hx hb dL_law_33 (fun j hj => Or.inr ?_) (by decide) (by decide) (kk H locs u v hR hI)
      have hj : j < 23 := hj
      intro hz
      have hx2 : x = nI j := Int32.toInt_inj.mp (by rw [i_toInt (by omega)]; omega)
      rcases (show j = 0 ∨ j = 1 ∨ j = 2 ∨ j = 3 ∨ j = 4 ∨ j = 5 ∨ j = 6 ∨ j = 7 ∨ j = 8 ∨ j = 9 ∨ j = 10 ∨ j = 11 ∨ j = 12 ∨ j = 13 ∨ j = 14 ∨ j = 15 ∨ j = 16 ∨ j = 17 ∨ j = 18 ∨ j = 19 ∨ j = 20 ∨ j = 21 ∨ j = 22 by omega) with rfl | rfl | rfl | rfl | rfl | rfl | rfl | rfl | rfl | rfl | rfl | rfl | rfl | rfl | rfl | rfl | rfl | rfl | rfl | rfl | rfl | rfl | rfl
      · exact h0 hx2
      · exact h1 hx2
      · exact h2 hx2
      · exact h3 hx2
      · exact h4 hx2
      · exact h5 hx2
      · exact h6 hx2
      · exact h7 hx2
      · exact h8 hx2
      · exact h9 hx2
      · exact h10 hx2
      · exact h11 hx2
      · exact h12 hx2
      · exact h13 hx2
      · exact h14 hx2
      · exact h15 hx2
      · exact h16 hx2
      · exact h17 hx2
      · exact h18 hx2
      · exact h19 hx2
      · exact h20 hx2
      · exact h21 hx2
      · exact h22 hx2
end XW
