/-! ===== PHASE A: makers: worlds that grow ===== -/
def AO (U : State) : Prop := va_AO "MergedOutline$Desk" U
theorem AO.warm {s U : State} (hW : s.WarmedH U.vm) (h : AO s) : AO U := va_AO.moved hW.alike h
def PwA (D : va_G) (tys : List (ClassId × FieldType)) (av : List Value) (w0 : va_W) (sz : Nat) : Array Value → State → Prop := fun a U => Pw D tys av w0 sz a U ∧ AO U
/-- a maker's end: its object at q, and what it made, somewhere -/
def Qi (D : va_G) (tys : List (ClassId × FieldType)) (w0 : va_W) (sz : Nat) (wF : (Nat → Nat) → va_W) : Array Value → State → Outcome → State → Prop :=
  fun _ st oc t => (∃ B : Nat → Nat, oc = .returned none ∧ va_P D vwCl (wF B) t.heap ∧ G D tys t ∧ va_D (va_A w0 sz) (wF B)) ∧ va_F (va_A w0 sz) st t
def rmI (f n mc ms : Nat) : Room := { frames := f, cells := mc, slots := ms, locals := n }
def CtI (l : Launch) (y : MethodName) (cc : ByteArray) (maxL : Nat) (f n mc ms : Nat) (D : va_G) (tys : List (ClassId × FieldType)) (av : List Value) (w0 : va_W) (wF : (Nat → Nat) → va_W) : Prop :=
  ∀ sz : Nat, Met l y [Cond.code y cc maxL none] (rmI f n mc ms) (PwA D tys av w0 sz) (Qi D tys w0 sz wF) mc ms (va_A w0 sz)
abbrev xQi (D : va_G) (tys : List (ClassId × FieldType)) (below : List Frame) (args : Array Value) (s : State) (w0 : va_W) (mc ms : Nat) (wF : (Nat → Nat) → va_W) : State → Prop :=
  MQ below (Qi D tys w0 s.heap.size wF) args s mc ms (va_A w0 s.heap.size)
theorem CtI.ofW {l : Launch} {y : MethodName} {cc : ByteArray} {maxL : Nat} {f n mc ms : Nat} {D : va_G} {tys : List (ClassId × FieldType)} {av : List Value} {w0 : va_W} {wF : (Nat → Nat) → va_W}
    (hy : plainName y.cls = true)
    (body : ∀ (p : Program) (e : Env) (s : State) (m : MethodId) (below : List Frame) (meth : Method) (c : Code), Cx p s m av.toArray meth c cc y.cls maxL none D tys → meth.name = y.name → AO s → xI D (va_A w0 s.heap.size) s.heap w0 s.heap [] →
      W p l e (rmI f n mc ms) s m av.toArray below meth c s.heap [] 0 0 (xQi D tys below av.toArray s w0 mc ms wF) (entryFrame m av.toArray maxL)) : CtI l y cc maxL f n mc ms D tys av w0 wF := by
  intro sz
  refine Met.ofW (cc := cc) (maxL := maxL) (ret := none) hy rfl ?_
  intro p e s m args below meth c s₁ B hml hv
  obtain ⟨⟨rfl, hsz, hP, hG, hD0⟩, hAO⟩ := hv
  subst hsz
  exact body p e s m below meth c ⟨B.exec, B.bytes, hml, findClass_of_methodNamed B.named, B.returns, B.notSynchronized, hG⟩ (name_of_methodNamed B.named B.method).1 hAO ⟨hP, hD0.self, va_S.rf⟩
section XN
variable {p : Program} {l : Launch} {e : Env} {R : Room} {s : State} {m : MethodId} {args : Array Value} {below : List Frame} {meth : Method} {c : Code} {H : Heap} {locs : List Loc} {cells slots : Nat} {Q : State → Prop}
variable {cc : ByteArray} {pc : Nat} {ls : Array Slot} {rest : List Value} {D : va_G} {A : Nat → Prop} {tys : List (ClassId × FieldType)} {w0 w1 ws : va_W} {H0 : Heap}
theorem xn_new {own C : String} {T : u_T} {N ci index : Nat} (hx : p.tables.exec = Jvm.exec) (hb : c.code = cc) (hown : s.vm.findClass own = some m.cls) (hG : G D tys s) (hI : xI D A H0 ws H locs) (hA : ∀ q, H0.size ≤ q → A q) (hin : ∀ w ∈ u_ws C T N, w ∈ tb) (ty : Nat → FieldType) (hty : ∀ k, k < N → parseFieldDescriptor (T k).2.2.1 = some (ty k)) (hcl : Cond.classLink own index C ∈ tb) (hinst : Cond.instantiable C N ∈ tb) (hini : Cond.initialized C ∈ tb) (hc : vwCl[ci]? = some (C, T, N)) {fs : List Value} (hfs : ∀ j, j < N → defaultValue (ty j) = vp_V fs j) (hcells : cells + 1 ≤ R.cells) (hslots : slots + N ≤ R.slots) (hdg : decode cc pc = .ok (.new index, 3))
    (kk : ∀ (q : Nat) (H1 : Heap), xI D A H0 (ws ++ [(q, .inr (ci, fs))]) H1 locs → W p l e R s m args below meth c H1 locs (cells + 1) (slots + N) Q (F0 m (pc + 3) ls (.ref q :: rest))) : W p l e R s m args below meth c H locs cells slots Q (F0 m pc ls rest) :=
  va_new (Ts := tb) hx hb (fun w h => hG.2 w h args) hin ty hty hown (hG.2 _ hcl args) (hG.2 _ hinst args) (hG.2 _ hini args) hG.1 hI.1 hI.2.1 hI.2.2 hA hc hfs hcells hslots hdg (fun q H1 h1 h2 h3 => kk q H1 ⟨h1, h2, h3⟩)
theorem xn_newI {cI : ClassId} {n : Int32} {N' : Nat} (hx : p.tables.exec = Jvm.exec) (hb : c.code = cc) (hG : G D tys s) (hI : xI D A H0 ws H locs) (hA : ∀ q, H0.size ≤ q → A q) (t0 : Nat) (ht : tys[t0]? = some (cI, .int)) (hn : ¬ n < 0) (hN : n.toNatClampNeg = N') (hbytes : N' * 4 ≤ 536870912) (hcells : cells + 1 ≤ R.cells) (hslots : slots + N' ≤ R.slots) (hdg : decode cc pc = .ok (.newarray .int, 2))
    (kk : ∀ (q : Nat) (H1 : Heap), xI D A H0 (ws ++ [(q, .inl (cI, N', .inl (fun _ => 0)))]) H1 locs → W p l e R s m args below meth c H1 locs (cells + 1) (slots + N') Q (F0 m (pc + 2) ls (.ref q :: rest))) : W p l e R s m args below meth c H locs cells slots Q (F0 m pc ls (.int n :: rest)) := by
  refine va_newa (atype := .int) (ty := .int) (a0 := (N', .inl (fun _ => 0))) hx hb (hG.2 _ k_ac_int args) rfl hG.1 hI.1 hI.2.1 hI.2.2 hA (fun cA => rfl) hn hN hbytes hcells hslots hdg (fun q cA H1 hK h1 h2 h3 => ?_)
  have e1 : s.vm.findClass ("[" ++ (FieldType.int).toString) = some cA := (hK.2 tys.length (cA, .int) (by simp)).2
  have e2 : s.vm.findClass ("[" ++ (FieldType.int).toString) = some cI := (hG.1.2 t0 _ ht).2
  rw [e1] at e2
  cases e2
  exact kk q H1 ⟨h1, h2, h3⟩
theorem xn_newZ {cZ : ClassId} {n : Int32} {N' : Nat} (hx : p.tables.exec = Jvm.exec) (hb : c.code = cc) (hG : G D tys s) (hI : xI D A H0 ws H locs) (hA : ∀ q, H0.size ≤ q → A q) (t0 : Nat) (ht : tys[t0]? = some (cZ, .boolean)) (hn : ¬ n < 0) (hN : n.toNatClampNeg = N') (hbytes : N' * 1 ≤ 536870912) (hcells : cells + 1 ≤ R.cells) (hslots : slots + N' ≤ R.slots) (hdg : decode cc pc = .ok (.newarray .boolean, 2))
    (kk : ∀ (q : Nat) (H1 : Heap), xI D A H0 (ws ++ [(q, .inl (cZ, N', .inl (fun _ => 0)))]) H1 locs → W p l e R s m args below meth c H1 locs (cells + 1) (slots + N') Q (F0 m (pc + 2) ls (.ref q :: rest))) : W p l e R s m args below meth c H locs cells slots Q (F0 m pc ls (.int n :: rest)) := by
  refine va_newa (atype := .boolean) (ty := .boolean) (a0 := (N', .inl (fun _ => 0))) hx hb (hG.2 _ k_ac_boolean args) rfl hG.1 hI.1 hI.2.1 hI.2.2 hA (fun cA => rfl) hn hN hbytes hcells hslots hdg (fun q cA H1 hK h1 h2 h3 => ?_)
  have e1 : s.vm.findClass ("[" ++ (FieldType.boolean).toString) = some cA := (hK.2 tys.length (cA, .boolean) (by simp)).2
  have e2 : s.vm.findClass ("[" ++ (FieldType.boolean).toString) = some cZ := (hG.1.2 t0 _ ht).2
  rw [e1] at e2
  cases e2
  exact kk q H1 ⟨h1, h2, h3⟩
theorem xn_newD {own : String} {index : Nat} {cD : ClassId} {n : Int32} {N' : Nat} (hx : p.tables.exec = Jvm.exec) (hb : c.code = cc) (hown : s.vm.findClass own = some m.cls) (hG : G D tys s) (hO : AO s) (hI : xI D A H0 ws H locs) (hA : ∀ q, H0.size ≤ q → A q) (hcl : Cond.classLink own index "MergedOutline$Desk" ∈ tb) (t0 : Nat) (ht : tys[t0]? = some (cD, .object "MergedOutline$Desk")) (hn : ¬ n < 0) (hN : n.toNatClampNeg = N') (hbytes : N' * 4 ≤ 536870912) (hcells : cells + 1 ≤ R.cells) (hslots : slots + N' ≤ R.slots) (hdg : decode cc pc = .ok (.anewarray index, 3))
    (kk : ∀ (q : Nat) (H1 : Heap), xI D A H0 (ws ++ [(q, .inl (cD, N', .inr (.inr (.inr (.inr (fun _ => none))))))]) H1 locs → W p l e R s m args below meth c H1 locs (cells + 1) (slots + N') Q (F0 m (pc + 3) ls (.ref q :: rest))) : W p l e R s m args below meth c H locs cells slots Q (F0 m pc ls (.int n :: rest)) := by
  refine va_newq (C := "MergedOutline$Desk") hx hb hown (hG.2 _ hcl args) hO hG.1 hI.1 hI.2.1 hI.2.2 hA hn hN hbytes hcells hslots hdg (fun q cA H1 hK h1 h2 h3 => ?_)
  obtain ⟨-, -, -, -, -, e1⟩ := (hK.2 tys.length (cA, .object "MergedOutline$Desk") (by simp)).2
  obtain ⟨-, -, -, -, -, e2⟩ := (hG.1.2 t0 _ ht).2
  rw [e1] at e2
  cases e2
  exact kk q H1 ⟨h1, h2, h3⟩
theorem xn_putF {own C : String} {T : u_T} {N ci index a : Nat} {fs : List Value} (hx : p.tables.exec = Jvm.exec) (hb : c.code = cc) (hown : s.vm.findClass own = some m.cls) (hG : G D tys s) (hI : xI D A H0 ws H locs) (q0 : Nat) (he : ws[q0]? = some (a, .inr (ci, fs))) (hc : vwCl[ci]? = some (C, T, N)) (hin : ∀ w ∈ u_ws C T N, w ∈ tb) (ty0 : Nat → FieldType) (hty : ∀ k, k < N → parseFieldDescriptor (T k).2.2.1 = some (ty0 k)) (hnm : ∀ a, a < N → ∀ b, b < N → a ≠ b → (T a).2.1 ≠ (T b).2.1) (k : Nat) (hk : k < N) (hl : Cond.fieldLink own index (T k).1 (T k).2.1 (T k).2.2.1 ∈ tb) (hfin : (T k).2.2.2 = true) (hin2 : meth.name = "<init>") (hdecl : (T k).1 = own) {ty : FieldType} {v : Value} (hd : parseFieldDescriptor (T k).2.2.1 = some ty) (hn : narrow ty v = v) (hfit : fits ty v = true) (hlen : k < fs.length) (hdg : decode cc pc = .ok (.putfield index, 3))
    (kk : ∀ (H1 : Heap) (locs1 : List Loc), xI D A H0 (ws.set q0 (a, .inr (ci, fs.set k v))) H1 locs1 → W p l e R s m args below meth c H1 locs1 cells slots Q (F0 m (pc + 3) ls rest)) : W p l e R s m args below meth c H locs cells slots Q (F0 m pc ls (v :: .ref a :: rest)) :=
  va_putF (Ts := tb) hx hb (fun w h => hG.2 w h args) hin ty0 hty hnm hown hG.1 hI.1 hI.2.1 hI.2.2 q0 he hc k hk (hG.2 _ hl args) (fun _ h => h) hfin hin2 hdecl hd hn hfit hlen hdg (fun H1 locs1 h1 h2 h3 => kk H1 locs1 ⟨h1, h2, h3⟩)
theorem xn_put {own C : String} {T : u_T} {N ci index a : Nat} {fs : List Value} (hx : p.tables.exec = Jvm.exec) (hb : c.code = cc) (hown : s.vm.findClass own = some m.cls) (hG : G D tys s) (hI : xI D A H0 ws H locs) (q0 : Nat) (he : ws[q0]? = some (a, .inr (ci, fs))) (hc : vwCl[ci]? = some (C, T, N)) (hin : ∀ w ∈ u_ws C T N, w ∈ tb) (ty0 : Nat → FieldType) (hty : ∀ k, k < N → parseFieldDescriptor (T k).2.2.1 = some (ty0 k)) (hnm : ∀ a, a < N → ∀ b, b < N → a ≠ b → (T a).2.1 ≠ (T b).2.1) (k : Nat) (hk : k < N) (hl : Cond.fieldLink own index (T k).1 (T k).2.1 (T k).2.2.1 ∈ tb) (hfin : (T k).2.2.2 = false) {ty : FieldType} {v : Value} (hd : parseFieldDescriptor (T k).2.2.1 = some ty) (hn : narrow ty v = v) (hfit : fits ty v = true) (hlen : k < fs.length) (hdg : decode cc pc = .ok (.putfield index, 3))
    (kk : ∀ (H1 : Heap) (locs1 : List Loc), xI D A H0 (ws.set q0 (a, .inr (ci, fs.set k v))) H1 locs1 → W p l e R s m args below meth c H1 locs1 cells slots Q (F0 m (pc + 3) ls rest)) : W p l e R s m args below meth c H locs cells slots Q (F0 m pc ls (v :: .ref a :: rest)) :=
  va_put (Ts := tb) hx hb (fun w h => hG.2 w h args) hin ty0 hty hnm hown hG.1 hI.1 hI.2.1 hI.2.2 q0 he hc k hk (hG.2 _ hl args) (fun _ h => h) hfin hd hn hfit hlen hdg (fun H1 locs1 h1 h2 h3 => kk H1 locs1 ⟨h1, h2, h3⟩)
/-- the callee's cells w0 at the world's end, the rest before it -/
theorem xi_join {ws w0 w1 : va_W} {H1 : Heap} (hI : xI D A H0 (ws ++ w0) H locs) (hA : ∀ q, H0.size ≤ q → A q) (hk : ∀ q : Nat, q < H.size → ¬ va_A w0 H.size q → H1[q]? = H[q]?) (hz : H.size ≤ H1.size) (hP1 : va_P D vwCl w1 H1) (hD1 : va_D (va_A w0 H.size) w1) {L : List Loc} (hL : ∀ q ∈ L, va_A w0 H.size q.base) : xI D A H0 (ws ++ w1) H1 (locs ++ L) := by
  have at0 : ∀ (k : Nat) (q : Nat × va_E), w0[k]? = some q → (ws ++ w0)[ws.length + k]? = some q := fun k q h => by
    rw [List.getElem?_append_right (by omega), show ws.length + k - ws.length = k by omega]; exact h
  have atS : ∀ (k : Nat) (q : Nat × va_E), ws[k]? = some q → (ws ++ w0)[k]? = some q ∧ k < ws.length := fun k q h => by
    have hl := (List.getElem?_eq_some_iff.mp h).1
    exact ⟨by rw [List.getElem?_append_left hl]; exact h, hl⟩
  have hF : ∀ q, va_A w0 H.size q → A q := by
    intro q h
    rcases h with ⟨k, e, h⟩ | h
    · exact hI.2.1.2 _ (q, e) (at0 k _ h)
    · exact hA q (Nat.le_trans hI.2.2.1 h)
  have apart : ∀ (k : Nat) (q : Nat × va_E), ws[k]? = some q → q.1 < H.size ∧ ¬ va_A w0 H.size q.1 := by
    intro k q h
    obtain ⟨h1, h2⟩ := atS k q h
    have hl := (hI.1 k q h1).lt
    refine ⟨hl, fun z => ?_⟩
    rcases z with ⟨j, e, z⟩ | z
    · have := hI.2.1.1 k (ws.length + j) q (q.1, e) h1 (at0 j _ z) rfl
      omega
    · omega
  refine ⟨va_P.app (fun k q h => ?_) hP1, va_D.app ⟨fun i j x y hx hy hxy => ?_, fun k q h => ?_⟩ (hD1.weaken (fun k q _ h => hF q.1 h)) (fun i j x y hx hy hxy => ?_), Nat.le_trans hI.2.2.1 hz, fun q h1 h2 => ?_, fun q hq => ?_⟩
  · obtain ⟨g1, g2⟩ := apart k q h
    exact (hI.1 k q (atS k q h).1).kept (hk q.1 g1 g2)
  · exact hI.2.1.1 i j x y (atS i x hx).1 (atS j y hy).1 hxy
  · exact hI.2.1.2 k q (atS k q h).1
  · exact (apart i x hx).2 (by rw [hxy]; exact hD1.2 j y hy)
  · rw [hk q (Nat.lt_of_lt_of_le h1 hI.2.2.1) (fun z => h2 (hF q z))]
    exact hI.2.2.2.1 q h1 h2
  · rcases List.mem_append.mp hq with h | h
    · exact hI.2.2.2.2 q h
    · exact hF _ (hL q h)
theorem xi_run {st : List Value} {a : Array Value} {mc ms : Nat} {wF : (Nat → Nat) → va_W} (hr : va_Run p l e R s m args below meth c H locs cells slots mc ms (F0 m pc ls st) rest (Qi D tys w0 H.size wF a) (va_A w0 H.size)) (hI : xI D A H0 (ws ++ w0) H locs) (hA : ∀ q, H0.size ≤ q → A q)
    (kk : ∀ (B : Nat → Nat) (H1 : Heap) (locs1 : List Loc), xI D A H0 (ws ++ wF B) H1 locs1 → W p l e R s m args below meth c H1 locs1 (cells + mc) (slots + ms) Q (F0 m (pc + 3) ls rest)) : W p l e R s m args below meth c H locs cells slots Q (F0 m pc ls st) := by
  intro T hT X
  obtain ⟨v', st₀, t, T', L, h0, X', hL, e1, e2, ⟨⟨B, hv, hP1, hG1, hD1⟩, hz, hk⟩, stp⟩ := hr T hT X
  cases hv
  rw [h0] at hz hk
  have hI1 : xI D A H0 (ws ++ wF B) T'.heap (locs ++ L) := xi_join hI hA (fun q h1 h2 => by rw [e1]; exact hk q h1 h2) (by rw [e1]; exact hz) (by rw [e1]; exact hP1) hD1 hL
  obtain ⟨t2, a1, b1⟩ := kk B T'.heap (locs ++ L) hI1 T' rfl X'
  exact ⟨t2, stp t2 a1, b1⟩
theorem PwA.blind {av : List Value} {sz : Nat} : FrameBlind (PwA D tys av w0 sz) := by
  intro a U g mk q
  exact ⟨Pw.blind a U g mk q.1, va_AO.moved (u := U) (U := U.calling g mk a) (Vm.Alike.refl U.vm) q.2⟩
theorem xI.part {ws w0 : va_W} (hI : xI D A H0 (ws ++ w0) H locs) : va_P D vwCl w0 H ∧ va_D A w0 := by
  have at0 : ∀ (k : Nat) (q : Nat × va_E), w0[k]? = some q → (ws ++ w0)[ws.length + k]? = some q := fun k q h => by
    rw [List.getElem?_append_right (by omega), show ws.length + k - ws.length = k by omega]; exact h
  refine ⟨fun k q h => hI.1 _ q (at0 k q h), fun i j x y hx hy hxy => ?_, fun k q h => hI.2.1.2 _ q (at0 k q h)⟩
  have := hI.2.1.1 _ _ x y (at0 i x hx) (at0 j y hy) hxy
  omega
theorem PwA.at {av : List Value} (hG : G D tys s) (hO : AO s) (hI : xI D A H0 (ws ++ w0) H locs) : ∀ U : State, U.heap = H → s.WarmedH U.vm → PwA D tys av w0 H.size av.toArray U := by
  intro U hU hW
  obtain ⟨h1, h2⟩ := hI.part
  exact ⟨⟨rfl, by rw [hU], by rw [hU]; exact h1, hG.warm hW, h2.weaken (fun _ _ _ _ => trivial)⟩, hO.warm hW⟩
theorem xiCB {own : String} {index maxL n mc ms f ln : Nat} {y : MethodName} {bytes : ByteArray} (hG : G D tys s) (hc : Cond.code y bytes maxL none ∈ tb) (hi : Cond.initialized y.cls ∈ tb) (h1 : y.cls ≠ "java/lang/invoke/MethodHandle") (h2 : y.cls ≠ "java/lang/invoke/VarHandle") (h3 : (parseMethodDescriptor y.desc).map (fun d => d.parameters.length) = some n) (hl : Cond.methodLink own index y ∈ tb) (hR : f + 1 ≤ R.frames ∧ 8 + (maxL + 11) + ln ≤ R.locals) :
    CallB R s args own index y bytes maxL none [Cond.code y bytes maxL none] (rmI f ln mc ms) mc ms n := by
  refine ⟨rfl, rfl, hR.1, hR.2, fun w hw a' U hW => ?_, List.mem_cons_self, hG.2 _ hc args, hG.2 _ hi args, ⟨h1, h2⟩, fun sig h => ?_, hG.2 _ hl args⟩
  · rw [List.mem_singleton.mp hw]
    exact (hG.2.warm hW) _ hc a'
  · rw [h] at h3
    exact (Option.some.inj h3).symm
theorem xiCN {own host : String} {index maxL n mc ms f ln : Nat} {y : MethodName} {bytes : ByteArray} (hG : G D tys s) (hc : Cond.code y bytes maxL none ∈ tb) (hi : Cond.initialized y.cls ∈ tb) (h1 : y.cls ≠ "java/lang/invoke/MethodHandle") (h2 : y.cls ≠ "java/lang/invoke/VarHandle") (h3 : (parseMethodDescriptor y.desc).map (fun d => d.parameters.length) = some n) (hl : Cond.methodLinkNest own index y host ∈ tb) (hR : f + 1 ≤ R.frames ∧ 8 + (maxL + 11) + ln ≤ R.locals) :
    va_CN R s args own index y host bytes maxL none [Cond.code y bytes maxL none] (rmI f ln mc ms) mc ms n := by
  refine ⟨⟨rfl, rfl, hR.1, hR.2, fun w hw a' U hW => ?_, List.mem_cons_self⟩, hG.2 _ hc args, hG.2 _ hi args, ⟨h1, h2⟩, fun sig h => ?_, hG.2 _ hl args⟩
  · rw [List.mem_singleton.mp hw]
    exact (hG.2.warm hW) _ hc a'
  · rw [h] at h3
    exact (Option.some.inj h3).symm
/-- invokespecial of a maker -/
theorem xi_I {own : String} {index maxL n f ln nL mc ms b : Nat} {As st : List Value} {y : MethodName} {bytes : ByteArray} {wF : (Nat → Nat) → va_W}
    (hC : CtI l y bytes maxL f ln mc ms D tys (.ref b :: As) w0 wF) (hc : Cond.code y bytes maxL none ∈ tb) (hi : Cond.initialized y.cls ∈ tb) (him : Cond.instanceMethod y ∈ tb) (hnm : y.name = "<init>") (h1 : y.cls ≠ "java/lang/invoke/MethodHandle") (h2 : y.cls ≠ "java/lang/invoke/VarHandle") (h3 : (parseMethodDescriptor y.desc).map (fun d => d.parameters.length) = some n) (hl : Cond.methodLink own index y ∈ tb)
    (hx : p.tables.exec = Jvm.exec) (hb : c.code = cc) (hml : c.maxLocals = nL) (hown : s.vm.findClass own = some m.cls) (hG : G D tys s) (hO : AO s) (hI : xI D A H0 (ws ++ w0) H locs) (hA : ∀ q, H0.size ≤ q → A q)
    (hR : f + 1 ≤ R.frames ∧ 8 + (maxL + 11) + ln ≤ R.locals) (hf : cells + mc ≤ R.cells ∧ slots + ms ≤ R.slots)
    (hn : As.length = n) (hls : ls.size = nL) (hst : st = As.reverse ++ .ref b :: rest) (hcat : (rest.map fun v => v.category).sum ≤ 8) (hdg : decode cc pc = .ok (.invokespecial index, 3))
    (kk : ∀ (B : Nat → Nat) (H1 : Heap) (locs1 : List Loc), xI D A H0 (ws ++ wF B) H1 locs1 → W p l e R s m args below meth c H1 locs1 (cells + mc) (slots + ms) Q (F0 m (pc + 3) ls rest)) : W p l e R s m args below meth c H locs cells slots Q (F0 m pc ls st) :=
  xi_run (va_runI (b := b) (As := As) (g := F0 m pc ls st) (Ts := tb) ⟨hx, hb, hml, hown, fun w h => hG.2 w h args⟩ (hC H.size) ⟨xiCB hG hc hi h1 h2 h3 hl hR, hnm, hG.2 _ him args⟩ ⟨PwA.blind, PwA.at hG hO hI⟩ rfl hn hls hst (lv_room hcat) hdg hf) hI hA kk
theorem xi_IN {own host : String} {index maxL n f ln nL mc ms b : Nat} {As st : List Value} {y : MethodName} {bytes : ByteArray} {wF : (Nat → Nat) → va_W}
    (hC : CtI l y bytes maxL f ln mc ms D tys (.ref b :: As) w0 wF) (hc : Cond.code y bytes maxL none ∈ tb) (hi : Cond.initialized y.cls ∈ tb) (him : Cond.instanceMethod y ∈ tb) (hnm : y.name = "<init>") (h1 : y.cls ≠ "java/lang/invoke/MethodHandle") (h2 : y.cls ≠ "java/lang/invoke/VarHandle") (h3 : (parseMethodDescriptor y.desc).map (fun d => d.parameters.length) = some n) (hl : Cond.methodLinkNest own index y host ∈ tb)
    (hx : p.tables.exec = Jvm.exec) (hb : c.code = cc) (hml : c.maxLocals = nL) (hown : s.vm.findClass own = some m.cls) (hG : G D tys s) (hO : AO s) (hI : xI D A H0 (ws ++ w0) H locs) (hA : ∀ q, H0.size ≤ q → A q)
    (hR : f + 1 ≤ R.frames ∧ 8 + (maxL + 11) + ln ≤ R.locals) (hf : cells + mc ≤ R.cells ∧ slots + ms ≤ R.slots)
    (hn : As.length = n) (hls : ls.size = nL) (hst : st = As.reverse ++ .ref b :: rest) (hcat : (rest.map fun v => v.category).sum ≤ 8) (hdg : decode cc pc = .ok (.invokespecial index, 3))
    (kk : ∀ (B : Nat → Nat) (H1 : Heap) (locs1 : List Loc), xI D A H0 (ws ++ wF B) H1 locs1 → W p l e R s m args below meth c H1 locs1 (cells + mc) (slots + ms) Q (F0 m (pc + 3) ls rest)) : W p l e R s m args below meth c H locs cells slots Q (F0 m pc ls st) :=
  xi_run (va_runIN (b := b) (As := As) (g := F0 m pc ls st) (Ts := tb) ⟨hx, hb, hml, hown, fun w h => hG.2 w h args⟩ (hC H.size) ⟨xiCN hG hc hi h1 h2 h3 hl hR, hnm, hG.2 _ him args⟩ ⟨PwA.blind, PwA.at hG hO hI⟩ rfl hn hls hst (lv_room hcat) hdg hf) hI hA kk
/-- a call of a method that makes nothing, its cells at the world's end -/
theorem xk_run {st : List Value} {v : Option Value} {a : Array Value} (hr : va_Run p l e R s m args below meth c H locs cells slots 0 0 (F0 m pc ls st) rest (Qw D tys w0 H.size v w1 a) (va_A w0 H.size)) (hI : xI D A H0 (ws ++ w0) H locs) (hA : ∀ q, H0.size ≤ q → A q)
    (kk : ∀ (H1 : Heap) (locs1 : List Loc), xI D A H0 (ws ++ w1) H1 locs1 → W p l e R s m args below meth c H1 locs1 cells slots Q (F0 m (pc + 3) ls (v.toList ++ rest))) : W p l e R s m args below meth c H locs cells slots Q (F0 m pc ls st) := by
  intro T hT X
  obtain ⟨v', st₀, t, T', L, h0, X', hL, e1, e2, ⟨⟨hv, hP1, hG1, hD1⟩, hz, hk⟩, stp⟩ := hr T hT X
  cases hv
  rw [h0] at hz hk
  have hI1 : xI D A H0 (ws ++ w1) T'.heap (locs ++ L) := xi_join hI hA (fun q h1 h2 => by rw [e1]; exact hk q h1 h2) (by rw [e1]; exact hz) (by rw [e1]; exact hP1) hD1 hL
  obtain ⟨t2, a1, b1⟩ := kk T'.heap (locs ++ L) hI1 T' rfl X'
  exact ⟨t2, stp t2 a1, b1⟩
theorem Pw.atP {av : List Value} (hG : G D tys s) (hI : xI D A H0 (ws ++ w0) H locs) : ∀ U : State, U.heap = H → s.WarmedH U.vm → Pw D tys av w0 H.size av.toArray U := by
  intro U hU hW
  obtain ⟨h1, h2⟩ := hI.part
  exact ⟨rfl, by rw [hU], by rw [hU]; exact h1, hG.warm hW, h2.weaken (fun _ _ _ _ => trivial)⟩
theorem xk_V {own : String} {index maxL n f ln nL ci q0 b : Nat} {q : vw_C} {fs As st : List Value} {y : MethodName} {bytes : ByteArray} {ret : Option FieldType} {v : Option Value}
    (hC : Ct l y bytes maxL ret (rmOf f ln) D tys (.ref b :: As) w0 v w1) (hM : MWi y bytes maxL ret n) (hl : Cond.methodLink own index y ∈ tb)
    (hx : p.tables.exec = Jvm.exec) (hb : c.code = cc) (hml : c.maxLocals = nL) (hown : s.vm.findClass own = some m.cls) (hG : G D tys s) (hI : xI D A H0 (ws ++ w0) H locs) (hA : ∀ q, H0.size ≤ q → A q)
    (he : w0[q0]? = some (b, .inr (ci, fs))) (hc : vwCl[ci]? = some q) (hy : q.1 = y.cls) (hR : f + 1 ≤ R.frames ∧ 8 + (maxL + 11) + ln ≤ R.locals) (hf : cells ≤ R.cells ∧ slots ≤ R.slots)
    (hn : As.length = n) (hls : ls.size = nL) (hst : st = As.reverse ++ .ref b :: rest) (hcat : (rest.map fun v => v.category).sum ≤ 8) (hdg : decode cc pc = .ok (.invokevirtual index, 3))
    (kk : ∀ (H1 : Heap) (locs1 : List Loc), xI D A H0 (ws ++ w1) H1 locs1 → W p l e R s m args below meth c H1 locs1 cells slots Q (F0 m (pc + 3) ls (v.toList ++ rest))) : W p l e R s m args below meth c H locs cells slots Q (F0 m pc ls st) := by
  obtain ⟨m1, m2, m3, m4, m5, m6, m7⟩ := hM
  refine xk_run (va_runV (C := y.cls) (b := b) (As := As) (g := F0 m pc ls st) ⟨hx, hb, hml, hown, fun w h => hG.2 w h args⟩ (hC H.size) ⟨xCB hG m1 m2 m5 m6 m7 hl hR, hG.2 _ m3 args, hG.2 _ m4 args⟩ ⟨Pw.blind, ?_, Pw.atP hG hI⟩ rfl hn hls hst (lv_room hcat) hdg hf) hI hA kk
  have h := va_recv hG.1 hI.part.1 hc he
  rw [hy] at h
  exact h
/-- a maker's return -/
theorem xr_I {mc ms : Nat} {wF : (Nat → Nat) → va_W} (B : Nat → Nat) (hx : p.tables.exec = Jvm.exec) (hb : c.code = cc) (hr : meth.sig.returnType = none) (hlk : meth.locks = false) (hG : G D tys s) (hI : xI D (va_A w0 s.heap.size) s.heap (wF B) H locs) (hc : cells ≤ mc) (hs : slots ≤ ms) (hdg : decode cc pc = .ok (.return_, 1)) : W p l e R s m args below meth c H locs cells slots (xQi D tys below args s w0 mc ms wF) (F0 m pc ls []) := by
  refine W.widen hc hs ?_
  exact W.vret hx hb hr (fun t ht hW => ⟨⟨B, rfl, by rw [ht]; exact hI.1, hG.warm hW, hI.2.1⟩, hI.2.2.F ht⟩) hI.2.2.2.2 hdg hlk
theorem xn_obj {own : String} {idx nL a : Nat} (hx : p.tables.exec = Jvm.exec) (hb : c.code = cc) (hml : c.maxLocals = nL) (hls : ls.size = nL) (hown : s.vm.findClass own = some m.cls) (hG : G D tys s) (hl : Cond.methodLink own idx objectInit ∈ tb) (hd : decode cc pc = .ok (.invokespecial idx, 3)) (hframes : 1 ≤ R.frames) (hlocals : (rest.map fun v => v.category).sum + 12 ≤ R.locals)
    (kk : W p l e R s m args below meth c H locs cells slots Q (F0 m (pc + 3) ls rest)) : W p l e R s m args below meth c H locs cells slots Q (F0 m pc ls (.ref a :: rest)) := by
  refine W.objInit hx hb hown (hG.2 _ hl args) (hG.2 _ k_oii args) (hG.2 _ k_oic args) rfl (hls.trans hml.symm) rfl hd hframes (by show 2 * 0 + _ + 12 ≤ _; omega) ?_
  exact kk
end XN
