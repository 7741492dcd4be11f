/-! ===== the tables' words as one fact, carried by every contract ===== -/
def isNestW : Cond → Bool
  | .fieldLinkNest _ _ _ _ _ _ => true
  | .methodLinkNest _ _ _ _ => true
  | _ => false
/-- the words that stay true -/
def tb : List Cond := lw_tbl.filter (fun w => goodWord w || isNestW w)
theorem tb_in {i : Nat} {w : Cond} (h : lw_tbl[i]? = some w) (h2 : (goodWord w || isNestW w) = true) : w ∈ tb := List.mem_filter.mpr ⟨List.mem_of_getElem? h, h2⟩
def TB (U : State) : Prop := ∀ w ∈ tb, ∀ a : Array Value, w.before a U = true
theorem nestW_cases {w : Cond} (h : isNestW w = true) : (∃ a i b n d h, w = .fieldLinkNest a i b n d h) ∨ ∃ a i x h, w = .methodLinkNest a i x h := by
  unfold isNestW at h
  split at h
  · exact Or.inl ⟨_, _, _, _, _, _, rfl⟩
  · exact Or.inr ⟨_, _, _, _, rfl⟩
  · cases h
theorem TB.warm {s U : State} (hW : s.WarmedH U.vm) (h : TB s) : TB U := by
  intro w hw a
  have h1 := (List.mem_filter.mp hw).2
  rcases (Bool.or_eq_true _ _).mp h1 with h2 | h2
  · exact word_at hW (good_of_word h2) (h w hw a)
  · rcases nestW_cases h2 with ⟨x1, x2, x3, x4, x5, x6, rfl⟩ | ⟨x1, x2, x3, x4, rfl⟩
    · exact va_Nw.use rfl (va_Nw.warmF hW (va_Nw.of rfl (h _ hw a)))
    · exact va_Nw.use rfl (va_Nw.warmM hW (va_Nw.of rfl (h _ hw a)))
theorem TB.start {s : State} {b : Array Value} (h : ∀ w ∈ lw_tbl, w.before b s = true) : TB s := by
  intro w hw a
  have h1 := (List.mem_filter.mp hw).2
  rcases (Bool.or_eq_true _ _).mp h1 with h2 | h2
  · exact word_at (State.WarmedH.refl s) (good_of_word h2) (h w (List.mem_filter.mp hw).1)
  · rcases nestW_cases h2 with ⟨x1, x2, x3, x4, x5, x6, rfl⟩ | ⟨x1, x2, x3, x4, rfl⟩
    · exact va_Nw.use rfl (va_Nw.of rfl (h _ (List.mem_filter.mp hw).1))
    · exact va_Nw.use rfl (va_Nw.of rfl (h _ (List.mem_filter.mp hw).1))
set_option maxRecDepth 100000 in
theorem inX0 : ∀ w ∈ wsX00, w ∈ tb := by decide +kernel
set_option maxRecDepth 100000 in
theorem inX1 : ∀ w ∈ wsX10, w ∈ tb := by decide +kernel
set_option maxRecDepth 100000 in
theorem inX2 : ∀ w ∈ wsX20, w ∈ tb := by decide +kernel
set_option maxRecDepth 100000 in
theorem inX3 : ∀ w ∈ wsX30, w ∈ tb := by decide +kernel
set_option maxRecDepth 100000 in
theorem inX4 : ∀ w ∈ wsX40, w ∈ tb := by decide +kernel
set_option maxRecDepth 100000 in
theorem inX5 : ∀ w ∈ wsX50, w ∈ tb := by decide +kernel
set_option maxRecDepth 100000 in
theorem inX6 : ∀ w ∈ wsX60, w ∈ tb := by decide +kernel
set_option maxRecDepth 100000 in
theorem inX7 : ∀ w ∈ wsX70, w ∈ tb := by decide +kernel
set_option maxRecDepth 100000 in
theorem inX8 : ∀ w ∈ wsX80, w ∈ tb := by decide +kernel
set_option maxRecDepth 100000 in
theorem inX9 : ∀ w ∈ wsX90, w ∈ tb := by decide +kernel
def G (D : va_G) (tys : List (ClassId × FieldType)) (U : State) : Prop := va_K D vwCl tys U ∧ TB U
theorem G.warm {D : va_G} {tys : List (ClassId × FieldType)} {s U : State} (hW : s.WarmedH U.vm) (h : G D tys s) : G D tys U := ⟨va_K.moved hW.alike h.1, h.2.warm hW⟩
/-- the world's cells stand, apart, and nothing else was changed -/
def xI (D : va_G) (A : Nat → Prop) (H0 : Heap) (w : va_W) (H : Heap) (locs : List Loc) : Prop := va_P D vwCl w H ∧ va_D A w ∧ va_S A H0 H locs
/-- a contract whose answer and world behind are known -/
def Pw (D : va_G) (tys : List (ClassId × FieldType)) (av : List Value) (w0 : va_W) (sz : Nat) : Array Value → State → Prop :=
  va_Pc av (fun U => U.heap.size = sz ∧ va_P D vwCl w0 U.heap ∧ G D tys U ∧ va_D (fun _ => True) w0)
def Qw (D : va_G) (tys : List (ClassId × FieldType)) (w0 : va_W) (sz : Nat) (v : Option Value) (w1 : va_W) : Array Value → State → Outcome → State → Prop :=
  fun _ st oc t => (oc = .returned v ∧ va_P D vwCl w1 t.heap ∧ G D tys t ∧ va_D (va_A w0 sz) w1) ∧ va_F (va_A w0 sz) st t
def Ct (l : Launch) (y : MethodName) (cc : ByteArray) (maxL : Nat) (ret : Option FieldType) (rm : Room) (D : va_G) (tys : List (ClassId × FieldType)) (av : List Value) (w0 : va_W) (v : Option Value) (w1 : va_W) : Prop :=
  ∀ sz : Nat, Met l y [Cond.code y cc maxL ret] rm (Pw D tys av w0 sz) (Qw D tys w0 sz v w1) 0 0 (va_A w0 sz)
def rmOf (f n : Nat) : Room := { frames := f, cells := 0, slots := 0, locals := n }
def Cx (p : Program) (s : State) (m : MethodId) (args : Array Value) (meth : Method) (c : Code) (cc : ByteArray) (own : String) (nL : Nat) (ret : Option FieldType) (D : va_G) (tys : List (ClassId × FieldType)) : Prop :=
  p.tables.exec = Jvm.exec ∧ c.code = cc ∧ c.maxLocals = nL ∧ s.vm.findClass own = some m.cls ∧ meth.sig.returnType = ret ∧ meth.locks = false ∧ G D tys s
abbrev xQ (D : va_G) (tys : List (ClassId × FieldType)) (below : List Frame) (args : Array Value) (s : State) (w0 : va_W) (v : Option Value) (w1 : va_W) : State → Prop :=
  MQ below (Qw D tys w0 s.heap.size v w1) args s 0 0 (va_A w0 s.heap.size)
theorem xA_of {w0 : va_W} {n : Nat} : ∀ q : Nat, n ≤ q → va_A w0 n q := fun _ h => Or.inr h
theorem Ct.ofW {l : Launch} {y : MethodName} {cc : ByteArray} {maxL : Nat} {ret : Option FieldType} {f n : Nat} {D : va_G} {tys : List (ClassId × FieldType)} {av : List Value} {w0 : va_W} {v : Option Value} {w1 : va_W}
    (hy : plainName y.cls = true)
    (body : ∀ (p : Program) (e : Env) (s : State) (m : MethodId) (below : List Frame) (meth : Method) (c : Code), Cx p s m av.toArray meth c cc y.cls maxL ret D tys → xI D (va_A w0 s.heap.size) s.heap w0 s.heap [] →
      W p l e (rmOf f n) s m av.toArray below meth c s.heap [] 0 0 (xQ D tys below av.toArray s w0 v w1) (entryFrame m av.toArray maxL)) : Ct l y cc maxL ret (rmOf f n) D tys av w0 v w1 := by
  intro sz
  refine Met.ofW (cc := cc) (maxL := maxL) (ret := ret) hy rfl ?_
  intro p e s m args below meth c s₁ B hml hv
  obtain ⟨rfl, hsz, hP, hG, hD0⟩ := hv
  subst hsz
  exact body p e s m below meth c ⟨B.exec, B.bytes, hml, findClass_of_methodNamed B.named, B.returns, B.notSynchronized, hG⟩ ⟨hP, hD0.self, va_S.rf⟩
/-- what the tables have of a method -/
def MWi (y : MethodName) (cc : ByteArray) (maxL : Nat) (ret : Option FieldType) (n : Nat) : Prop :=
  Cond.code y cc maxL ret ∈ tb ∧ Cond.initialized y.cls ∈ tb ∧ Cond.instanceMethod y ∈ tb ∧ Cond.selects y.cls y y ∈ tb ∧ y.cls ≠ "java/lang/invoke/MethodHandle" ∧ y.cls ≠ "java/lang/invoke/VarHandle" ∧ (parseMethodDescriptor y.desc).map (fun d => d.parameters.length) = some n
def MWs (y : MethodName) (cc : ByteArray) (maxL : Nat) (ret : Option FieldType) (n : Nat) : Prop :=
  Cond.code y cc maxL ret ∈ tb ∧ Cond.initialized y.cls ∈ tb ∧ Cond.static y ∈ tb ∧ y.cls ≠ "java/lang/invoke/MethodHandle" ∧ y.cls ≠ "java/lang/invoke/VarHandle" ∧ (parseMethodDescriptor y.desc).map (fun d => d.parameters.length) = some n
section XC
variable {p : Program} {l : Launch} {e : Env} {R : Room} {s : State} {m : MethodId} {args : Array Value} {below : List Frame} {meth : Method} {c : Code} {H : Heap} {locs : List Loc} {Q : State → Prop}
variable {cc : ByteArray} {pc : Nat} {ls : Array Slot} {rest : List Value} {D : va_G} {A : Nat → Prop} {tys : List (ClassId × FieldType)} {w0 w1 : va_W}
theorem xF_of {H0 : Heap} (hI : xI D A H0 w0 H locs) (hA : ∀ q, H0.size ≤ q → A q) : ∀ q, va_A w0 H.size q → A q := by
  intro q h
  rcases h with ⟨k, e, h⟩ | h
  · exact hI.2.1.2 k (q, e) h
  · exact hA q (Nat.le_trans hI.2.2.1 h)
theorem xc_run {st : List Value} {v : Option Value} {a : Array Value} {H0 : Heap} (hr : va_Run p l e R s m args below meth c H locs 0 0 0 0 (F0 m pc ls st) rest (Qw D tys w0 H.size v w1 a) (va_A w0 H.size)) (hI : xI D A H0 w0 H locs) (hA : ∀ q, H0.size ≤ q → A q)
    (kk : ∀ (H1 : Heap) (locs1 : List Loc), xI D A H0 w1 H1 locs1 → W p l e R s m args below meth c H1 locs1 0 0 Q (F0 m (pc + 3) ls (v.toList ++ rest))) : W p l e R s m args below meth c H locs 0 0 Q (F0 m pc ls st) := by
  have hF := xF_of hI hA
  intro T hT X
  obtain ⟨v', st₀, t, T', L, h0, X', hL, e1, e2, ⟨⟨hv, hP1, hG1, hD1⟩, hz, hk⟩, stp⟩ := hr T hT X
  cases hv
  rw [h0] at hz hk
  have hI1 : xI D A H0 w1 T'.heap (locs ++ L) := by
    refine ⟨by rw [e1]; exact hP1, hD1.weaken (fun k q _ h => hF q.1 h), Nat.le_trans hI.2.2.1 (by rw [e1]; exact hz), fun q h1 h2 => ?_, fun q hq => ?_⟩
    · rw [e1, hk q (Nat.lt_of_lt_of_le h1 hI.2.2.1) (fun z => h2 (hF q z))]
      exact hI.2.2.2.1 q h1 h2
    · rcases List.mem_append.mp hq with h | h
      · exact hI.2.2.2.2 q h
      · exact hF _ (hL q h)
  obtain ⟨t2, a1, b1⟩ := kk T'.heap (locs ++ L) hI1 T' rfl X'
  exact ⟨t2, stp t2 a1, b1⟩
theorem Pw.blind {av : List Value} {sz : Nat} : FrameBlind (Pw D tys av w0 sz) := by
  intro a U g mk q
  obtain ⟨q0, q1, qP, qG, qD⟩ := q
  exact ⟨q0, q1, qP, ⟨va_K.moved (u := U) (U := U.calling g mk a) (Vm.Alike.refl U.vm) qG.1, qG.2.warm (s := U) (U := U.calling g mk a) (State.WarmedH.refl U)⟩, qD⟩
theorem Pw.at {av : List Value} {H0 : Heap} (hG : G D tys s) (hI : xI D A H0 w0 H locs) : ∀ U : State, U.heap = H → s.WarmedH U.vm → Pw D tys av w0 H.size av.toArray U := by
  intro U hU hW
  exact ⟨rfl, by rw [hU], by rw [hU]; exact hI.1, hG.warm hW, hI.2.1.weaken (fun _ _ _ _ => trivial)⟩
theorem xCB {own : String} {index maxL n : Nat} {y : MethodName} {bytes : ByteArray} {ret : Option FieldType} {f ln : Nat} (hG : G D tys s) (hc : Cond.code y bytes maxL ret ∈ tb) (hi : Cond.initialized y.cls ∈ tb) (h1 : y.cls ≠ "java/lang/invoke/MethodHandle") (h2 : y.cls ≠ "java/lang/invoke/VarHandle") (h3 : (parseMethodDescriptor y.desc).map (fun d => d.parameters.length) = some n) (hl : Cond.methodLink own index y ∈ tb) (hR : f + 1 ≤ R.frames ∧ 8 + (maxL + 11) + ln ≤ R.locals) :
    CallB R s args own index y bytes maxL ret [Cond.code y bytes maxL ret] (rmOf f ln) 0 0 n := by
  refine ⟨rfl, rfl, hR.1, hR.2, fun w hw a' U hW => ?_, List.mem_cons_self, hG.2 _ hc args, hG.2 _ hi args, ⟨h1, h2⟩, fun sig h => ?_, hG.2 _ hl args⟩
  · rw [List.mem_singleton.mp hw]
    exact (hG.2.warm hW) _ hc a'
  · rw [h] at h3
    exact (Option.some.inj h3).symm
theorem xCN {own host : String} {index maxL n : Nat} {y : MethodName} {bytes : ByteArray} {ret : Option FieldType} {f ln : Nat} (hG : G D tys s) (hc : Cond.code y bytes maxL ret ∈ tb) (hi : Cond.initialized y.cls ∈ tb) (h1 : y.cls ≠ "java/lang/invoke/MethodHandle") (h2 : y.cls ≠ "java/lang/invoke/VarHandle") (h3 : (parseMethodDescriptor y.desc).map (fun d => d.parameters.length) = some n) (hl : Cond.methodLinkNest own index y host ∈ tb) (hR : f + 1 ≤ R.frames ∧ 8 + (maxL + 11) + ln ≤ R.locals) :
    va_CN R s args own index y host bytes maxL ret [Cond.code y bytes maxL ret] (rmOf f ln) 0 0 n := by
  refine ⟨⟨rfl, rfl, hR.1, hR.2, fun w hw a' U hW => ?_, List.mem_cons_self⟩, hG.2 _ hc args, hG.2 _ hi args, ⟨h1, h2⟩, fun sig h => ?_, hG.2 _ hl args⟩
  · rw [List.mem_singleton.mp hw]
    exact (hG.2.warm hW) _ hc a'
  · rw [h] at h3
    exact (Option.some.inj h3).symm
/-- invokevirtual of a method of the receiver's own class -/
theorem xc_V {own C : String} {index maxL n f ln nL ci q0 b : Nat} {q : vw_C} {fs As st : List Value} {y : MethodName} {bytes : ByteArray} {ret : Option FieldType} {v : Option Value} {H0 : Heap}
    (hC : Ct l y bytes maxL ret (rmOf f ln) D tys (.ref b :: As) w0 v w1) (hM : MWi y bytes maxL ret n) (hl : Cond.methodLink own index y ∈ tb)
    (hx : p.tables.exec = Jvm.exec) (hb : c.code = cc) (hml : c.maxLocals = nL) (hown : s.vm.findClass own = some m.cls) (hG : G D tys s) (hI : xI D A H0 w0 H locs) (hA : ∀ q, H0.size ≤ q → A q)
    (he : w0[q0]? = some (b, .inr (ci, fs))) (hc : vwCl[ci]? = some q) (hy : q.1 = y.cls) (hR : f + 1 ≤ R.frames ∧ 8 + (maxL + 11) + ln ≤ R.locals)
    (hn : As.length = n) (hls : ls.size = nL) (hst : st = As.reverse ++ .ref b :: rest) (hcat : (rest.map fun v => v.category).sum ≤ 8) (hdg : decode cc pc = .ok (.invokevirtual index, 3))
    (kk : ∀ (H1 : Heap) (locs1 : List Loc), xI D A H0 w1 H1 locs1 → W p l e R s m args below meth c H1 locs1 0 0 Q (F0 m (pc + 3) ls (v.toList ++ rest))) : W p l e R s m args below meth c H locs 0 0 Q (F0 m pc ls st) := by
  obtain ⟨m1, m2, m3, m4, m5, m6, m7⟩ := hM
  refine xc_run (va_runV (C := y.cls) (b := b) (As := As) (g := F0 m pc ls st) ⟨hx, hb, hml, hown, fun w h => hG.2 w h args⟩ (hC H.size) ⟨xCB hG m1 m2 m5 m6 m7 hl hR, hG.2 _ m3 args, hG.2 _ m4 args⟩ ⟨Pw.blind, ?_, Pw.at hG hI⟩ rfl hn hls hst (lv_room hcat) hdg ⟨Nat.zero_le _, Nat.zero_le _⟩) hI hA kk
  have h := va_recv hG.1 hI.1 hc he
  rw [hy] at h
  exact h
/-- the same, a private method of a nest mate -/
theorem xc_VN {own host : String} {index maxL n f ln nL ci q0 b : Nat} {q : vw_C} {fs As st : List Value} {y : MethodName} {bytes : ByteArray} {ret : Option FieldType} {v : Option Value} {H0 : Heap}
    (hC : Ct l y bytes maxL ret (rmOf f ln) D tys (.ref b :: As) w0 v w1) (hM : MWi y bytes maxL ret n) (hl : Cond.methodLinkNest own index y host ∈ tb)
    (hx : p.tables.exec = Jvm.exec) (hb : c.code = cc) (hml : c.maxLocals = nL) (hown : s.vm.findClass own = some m.cls) (hG : G D tys s) (hI : xI D A H0 w0 H locs) (hA : ∀ q, H0.size ≤ q → A q)
    (he : w0[q0]? = some (b, .inr (ci, fs))) (hc : vwCl[ci]? = some q) (hy : q.1 = y.cls) (hR : f + 1 ≤ R.frames ∧ 8 + (maxL + 11) + ln ≤ R.locals)
    (hn : As.length = n) (hls : ls.size = nL) (hst : st = As.reverse ++ .ref b :: rest) (hcat : (rest.map fun v => v.category).sum ≤ 8) (hdg : decode cc pc = .ok (.invokevirtual index, 3))
    (kk : ∀ (H1 : Heap) (locs1 : List Loc), xI D A H0 w1 H1 locs1 → W p l e R s m args below meth c H1 locs1 0 0 Q (F0 m (pc + 3) ls (v.toList ++ rest))) : W p l e R s m args below meth c H locs 0 0 Q (F0 m pc ls st) := by
  obtain ⟨m1, m2, m3, m4, m5, m6, m7⟩ := hM
  refine xc_run (va_runVN (C := y.cls) (b := b) (As := As) (g := F0 m pc ls st) (Ts := tb) ⟨hx, hb, hml, hown, fun w h => hG.2 w h args⟩ (hC H.size) ⟨xCN hG m1 m2 m5 m6 m7 hl hR, hG.2 _ m3 args, hG.2 _ m4 args⟩ ⟨Pw.blind, ?_, Pw.at hG hI⟩ rfl hn hls hst (lv_room hcat) hdg ⟨Nat.zero_le _, Nat.zero_le _⟩) hI hA kk
  have h := va_recv hG.1 hI.1 hc he
  rw [hy] at h
  exact h
/-- invokestatic -/
theorem xc_S {own : String} {index maxL n f ln nL : Nat} {As st : List Value} {y : MethodName} {bytes : ByteArray} {ret : Option FieldType} {v : Option Value} {H0 : Heap}
    (hC : Ct l y bytes maxL ret (rmOf f ln) D tys As w0 v w1) (hM : MWs y bytes maxL ret n) (hl : Cond.methodLink own index y ∈ tb)
    (hx : p.tables.exec = Jvm.exec) (hb : c.code = cc) (hml : c.maxLocals = nL) (hown : s.vm.findClass own = some m.cls) (hG : G D tys s) (hI : xI D A H0 w0 H locs) (hA : ∀ q, H0.size ≤ q → A q)
    (hR : f + 1 ≤ R.frames ∧ 8 + (maxL + 11) + ln ≤ R.locals)
    (hn : As.length = n) (hls : ls.size = nL) (hst : st = As.reverse ++ rest) (hcat : (rest.map fun v => v.category).sum ≤ 8) (hdg : decode cc pc = .ok (.invokestatic index, 3))
    (kk : ∀ (H1 : Heap) (locs1 : List Loc), xI D A H0 w1 H1 locs1 → W p l e R s m args below meth c H1 locs1 0 0 Q (F0 m (pc + 3) ls (v.toList ++ rest))) : W p l e R s m args below meth c H locs 0 0 Q (F0 m pc ls st) := by
  obtain ⟨m1, m2, m3, m5, m6, m7⟩ := hM
  exact xc_run (va_runS (As := As) (g := F0 m pc ls st) ⟨hx, hb, hml, hown, fun w h => hG.2 w h args⟩ (hC H.size) ⟨xCB hG m1 m2 m5 m6 m7 hl hR, hG.2 _ m3 args⟩ ⟨Pw.blind, Pw.at hG hI⟩ rfl hn hls hst (lv_room hcat) hdg ⟨Nat.zero_le _, Nat.zero_le _⟩) hI hA kk
theorem xc_SN {own host : String} {index maxL n f ln nL : Nat} {As st : List Value} {y : MethodName} {bytes : ByteArray} {ret : Option FieldType} {v : Option Value} {H0 : Heap}
    (hC : Ct l y bytes maxL ret (rmOf f ln) D tys As w0 v w1) (hM : MWs y bytes maxL ret n) (hl : Cond.methodLinkNest own index y host ∈ tb)
    (hx : p.tables.exec = Jvm.exec) (hb : c.code = cc) (hml : c.maxLocals = nL) (hown : s.vm.findClass own = some m.cls) (hG : G D tys s) (hI : xI D A H0 w0 H locs) (hA : ∀ q, H0.size ≤ q → A q)
    (hR : f + 1 ≤ R.frames ∧ 8 + (maxL + 11) + ln ≤ R.locals)
    (hn : As.length = n) (hls : ls.size = nL) (hst : st = As.reverse ++ rest) (hcat : (rest.map fun v => v.category).sum ≤ 8) (hdg : decode cc pc = .ok (.invokestatic index, 3))
    (kk : ∀ (H1 : Heap) (locs1 : List Loc), xI D A H0 w1 H1 locs1 → W p l e R s m args below meth c H1 locs1 0 0 Q (F0 m (pc + 3) ls (v.toList ++ rest))) : W p l e R s m args below meth c H locs 0 0 Q (F0 m pc ls st) := by
  obtain ⟨m1, m2, m3, m5, m6, m7⟩ := hM
  exact xc_run (va_runSN (As := As) (g := F0 m pc ls st) (Ts := tb) ⟨hx, hb, hml, hown, fun w h => hG.2 w h args⟩ (hC H.size) ⟨xCN hG m1 m2 m5 m6 m7 hl hR, hG.2 _ m3 args, trivial⟩ ⟨Pw.blind, Pw.at hG hI⟩ rfl hn hls hst (lv_room hcat) hdg ⟨Nat.zero_le _, Nat.zero_le _⟩) hI hA kk
/-! returns -/
theorem xr_q {v : Option Value} (hG : G D tys s) (hI : xI D (va_A w0 s.heap.size) s.heap w1 H locs) : ∀ t : State, t.heap = H → s.WarmedH t.vm → Qw D tys w0 s.heap.size v w1 args s (.returned v) t := by
  intro t ht hW
  exact ⟨⟨rfl, by rw [ht]; exact hI.1, hG.warm hW, hI.2.1⟩, hI.2.2.F ht⟩
theorem xr_i {r : Int32} (hx : p.tables.exec = Jvm.exec) (hb : c.code = cc) (hr : meth.sig.returnType = some .int) (hlk : meth.locks = false) (hG : G D tys s) (hI : xI D (va_A w0 s.heap.size) s.heap w1 H locs) (hdg : decode cc pc = .ok (.ireturn, 1)) : W p l e R s m args below meth c H locs 0 0 (xQ D tys below args s w0 (some (.int r)) w1) (F0 m pc ls [.int r]) :=
  W.iret hx hb hr (xr_q hG hI) hI.2.2.2.2 hdg hlk
def b2i (b : Bool) : Int32 := if b then 1 else 0
theorem b2i_nar (b : Bool) : narrow .boolean (.int (b2i b)) = .int (b2i b) := by cases b <;> decide +kernel
theorem xr_z {r : Bool} {x : Int32} (hxr : x = b2i r) (hx : p.tables.exec = Jvm.exec) (hb : c.code = cc) (hr : meth.sig.returnType = some .boolean) (hlk : meth.locks = false) (hG : G D tys s) (hI : xI D (va_A w0 s.heap.size) s.heap w1 H locs) (hdg : decode cc pc = .ok (.ireturn, 1)) : W p l e R s m args below meth c H locs 0 0 (xQ D tys below args s w0 (some (.int (b2i r))) w1) (F0 m pc ls [.int x]) := by
  subst hxr
  exact W.zret hx hb hr (b2i_nar r) (xr_q hG hI) hI.2.2.2.2 hdg hlk
theorem xr_l {r : Int64} (hx : p.tables.exec = Jvm.exec) (hb : c.code = cc) (hr : meth.sig.returnType = some .long) (hlk : meth.locks = false) (hG : G D tys s) (hI : xI D (va_A w0 s.heap.size) s.heap w1 H locs) (hdg : decode cc pc = .ok (.lreturn, 1)) : W p l e R s m args below meth c H locs 0 0 (xQ D tys below args s w0 (some (.long r)) w1) (F0 m pc ls [.long r]) :=
  W.lret hx hb hr (xr_q hG hI) hI.2.2.2.2 hdg hlk
theorem xr_v (hx : p.tables.exec = Jvm.exec) (hb : c.code = cc) (hr : meth.sig.returnType = none) (hlk : meth.locks = false) (hG : G D tys s) (hI : xI D (va_A w0 s.heap.size) s.heap w1 H locs) (hdg : decode cc pc = .ok (.return_, 1)) : W p l e R s m args below meth c H locs 0 0 (xQ D tys below args s w0 none w1) (F0 m pc ls []) :=
  W.vret hx hb hr (xr_q hG hI) hI.2.2.2.2 hdg hlk
theorem xr_a {v : Value} {rn : String} (hx : p.tables.exec = Jvm.exec) (hb : c.code = cc) (hr : meth.sig.returnType = some (.object rn)) (hlk : meth.locks = false) (hv : v = .null ∨ ∃ a, v = .ref a) (hG : G D tys s) (hI : xI D (va_A w0 s.heap.size) s.heap w1 H locs) (hdg : decode cc pc = .ok (.areturn, 1)) : W p l e R s m args below meth c H locs 0 0 (xQ D tys below args s w0 (some v) w1) (F0 m pc ls [v]) :=
  W.aret hx hb hr (Or.inl ⟨_, rfl⟩) hv (xr_q hG hI) hI.2.2.2.2 hdg hlk
end XC
