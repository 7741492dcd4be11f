/-! calls whose answer is one value, or none -/
section XC1
variable {p : Program} {l : Launch} {e : Env} {R : Room} {s : State} {m : MethodId} {args : Array Value} {below : List Frame} {meth : Method} {c : Code} {H : Heap} {locs : List Loc} {Q : State → Prop}
variable {cc : ByteArray} {pc : Nat} {ls : Array Slot} {rest : List Value} {D : va_G} {A : Nat → Prop} {tys : List (ClassId × FieldType)} {w0 w1 : va_W}
variable {own host : String} {index maxL n f ln nL ci q0 b : Nat} {q : vw_C} {fs As st : List Value} {y : MethodName} {bytes : ByteArray} {ret : Option FieldType} {v : Value} {H0 : Heap}
theorem xc_V1 (hC : Ct l y bytes maxL ret (rmOf f ln) D tys (.ref b :: As) w0 (some v) w1) (hM : MWi y bytes maxL ret n) (hl : Cond.methodLink own index y ∈ tb)
    (hx : p.tables.exec = Jvm.exec) (hb : c.code = cc) (hml : c.maxLocals = nL) (hown : s.vm.findClass own = some m.cls) (hG : G D tys s) (hI : xI D A H0 w0 H locs) (hA : ∀ q, H0.size ≤ q → A q)
    (he : w0[q0]? = some (b, .inr (ci, fs))) (hc : vwCl[ci]? = some q) (hy : q.1 = y.cls) (hR : f + 1 ≤ R.frames ∧ 8 + (maxL + 11) + ln ≤ R.locals)
    (hn : As.length = n) (hls : ls.size = nL) (hst : st = As.reverse ++ .ref b :: rest) (hcat : (rest.map fun v => v.category).sum ≤ 8) (hdg : decode cc pc = .ok (.invokevirtual index, 3))
    (kk : ∀ (H1 : Heap) (locs1 : List Loc), xI D A H0 w1 H1 locs1 → W p l e R s m args below meth c H1 locs1 0 0 Q (F0 m (pc + 3) ls (v :: rest))) : W p l e R s m args below meth c H locs 0 0 Q (F0 m pc ls st) :=
  xc_V (C := y.cls) hC hM hl hx hb hml hown hG hI hA he hc hy hR hn hls hst hcat hdg kk
theorem xc_V0 (hC : Ct l y bytes maxL ret (rmOf f ln) D tys (.ref b :: As) w0 none w1) (hM : MWi y bytes maxL ret n) (hl : Cond.methodLink own index y ∈ tb)
    (hx : p.tables.exec = Jvm.exec) (hb : c.code = cc) (hml : c.maxLocals = nL) (hown : s.vm.findClass own = some m.cls) (hG : G D tys s) (hI : xI D A H0 w0 H locs) (hA : ∀ q, H0.size ≤ q → A q)
    (he : w0[q0]? = some (b, .inr (ci, fs))) (hc : vwCl[ci]? = some q) (hy : q.1 = y.cls) (hR : f + 1 ≤ R.frames ∧ 8 + (maxL + 11) + ln ≤ R.locals)
    (hn : As.length = n) (hls : ls.size = nL) (hst : st = As.reverse ++ .ref b :: rest) (hcat : (rest.map fun v => v.category).sum ≤ 8) (hdg : decode cc pc = .ok (.invokevirtual index, 3))
    (kk : ∀ (H1 : Heap) (locs1 : List Loc), xI D A H0 w1 H1 locs1 → W p l e R s m args below meth c H1 locs1 0 0 Q (F0 m (pc + 3) ls rest)) : W p l e R s m args below meth c H locs 0 0 Q (F0 m pc ls st) :=
  xc_V (C := y.cls) hC hM hl hx hb hml hown hG hI hA he hc hy hR hn hls hst hcat hdg kk
theorem xc_VN1 (hC : Ct l y bytes maxL ret (rmOf f ln) D tys (.ref b :: As) w0 (some v) w1) (hM : MWi y bytes maxL ret n) (hl : Cond.methodLinkNest own index y host ∈ tb)
    (hx : p.tables.exec = Jvm.exec) (hb : c.code = cc) (hml : c.maxLocals = nL) (hown : s.vm.findClass own = some m.cls) (hG : G D tys s) (hI : xI D A H0 w0 H locs) (hA : ∀ q, H0.size ≤ q → A q)
    (he : w0[q0]? = some (b, .inr (ci, fs))) (hc : vwCl[ci]? = some q) (hy : q.1 = y.cls) (hR : f + 1 ≤ R.frames ∧ 8 + (maxL + 11) + ln ≤ R.locals)
    (hn : As.length = n) (hls : ls.size = nL) (hst : st = As.reverse ++ .ref b :: rest) (hcat : (rest.map fun v => v.category).sum ≤ 8) (hdg : decode cc pc = .ok (.invokevirtual index, 3))
    (kk : ∀ (H1 : Heap) (locs1 : List Loc), xI D A H0 w1 H1 locs1 → W p l e R s m args below meth c H1 locs1 0 0 Q (F0 m (pc + 3) ls (v :: rest))) : W p l e R s m args below meth c H locs 0 0 Q (F0 m pc ls st) :=
  xc_VN hC hM hl hx hb hml hown hG hI hA he hc hy hR hn hls hst hcat hdg kk
theorem xc_VN0 (hC : Ct l y bytes maxL ret (rmOf f ln) D tys (.ref b :: As) w0 none w1) (hM : MWi y bytes maxL ret n) (hl : Cond.methodLinkNest own index y host ∈ tb)
    (hx : p.tables.exec = Jvm.exec) (hb : c.code = cc) (hml : c.maxLocals = nL) (hown : s.vm.findClass own = some m.cls) (hG : G D tys s) (hI : xI D A H0 w0 H locs) (hA : ∀ q, H0.size ≤ q → A q)
    (he : w0[q0]? = some (b, .inr (ci, fs))) (hc : vwCl[ci]? = some q) (hy : q.1 = y.cls) (hR : f + 1 ≤ R.frames ∧ 8 + (maxL + 11) + ln ≤ R.locals)
    (hn : As.length = n) (hls : ls.size = nL) (hst : st = As.reverse ++ .ref b :: rest) (hcat : (rest.map fun v => v.category).sum ≤ 8) (hdg : decode cc pc = .ok (.invokevirtual index, 3))
    (kk : ∀ (H1 : Heap) (locs1 : List Loc), xI D A H0 w1 H1 locs1 → W p l e R s m args below meth c H1 locs1 0 0 Q (F0 m (pc + 3) ls rest)) : W p l e R s m args below meth c H locs 0 0 Q (F0 m pc ls st) :=
  xc_VN hC hM hl hx hb hml hown hG hI hA he hc hy hR hn hls hst hcat hdg kk
theorem xc_S1 (hC : Ct l y bytes maxL ret (rmOf f ln) D tys As w0 (some v) w1) (hM : MWs y bytes maxL ret n) (hl : Cond.methodLink own index y ∈ tb)
    (hx : p.tables.exec = Jvm.exec) (hb : c.code = cc) (hml : c.maxLocals = nL) (hown : s.vm.findClass own = some m.cls) (hG : G D tys s) (hI : xI D A H0 w0 H locs) (hA : ∀ q, H0.size ≤ q → A q)
    (hR : f + 1 ≤ R.frames ∧ 8 + (maxL + 11) + ln ≤ R.locals)
    (hn : As.length = n) (hls : ls.size = nL) (hst : st = As.reverse ++ rest) (hcat : (rest.map fun v => v.category).sum ≤ 8) (hdg : decode cc pc = .ok (.invokestatic index, 3))
    (kk : ∀ (H1 : Heap) (locs1 : List Loc), xI D A H0 w1 H1 locs1 → W p l e R s m args below meth c H1 locs1 0 0 Q (F0 m (pc + 3) ls (v :: rest))) : W p l e R s m args below meth c H locs 0 0 Q (F0 m pc ls st) :=
  xc_S hC hM hl hx hb hml hown hG hI hA hR hn hls hst hcat hdg kk
theorem xc_S0 (hC : Ct l y bytes maxL ret (rmOf f ln) D tys As w0 none w1) (hM : MWs y bytes maxL ret n) (hl : Cond.methodLink own index y ∈ tb)
    (hx : p.tables.exec = Jvm.exec) (hb : c.code = cc) (hml : c.maxLocals = nL) (hown : s.vm.findClass own = some m.cls) (hG : G D tys s) (hI : xI D A H0 w0 H locs) (hA : ∀ q, H0.size ≤ q → A q)
    (hR : f + 1 ≤ R.frames ∧ 8 + (maxL + 11) + ln ≤ R.locals)
    (hn : As.length = n) (hls : ls.size = nL) (hst : st = As.reverse ++ rest) (hcat : (rest.map fun v => v.category).sum ≤ 8) (hdg : decode cc pc = .ok (.invokestatic index, 3))
    (kk : ∀ (H1 : Heap) (locs1 : List Loc), xI D A H0 w1 H1 locs1 → W p l e R s m args below meth c H1 locs1 0 0 Q (F0 m (pc + 3) ls rest)) : W p l e R s m args below meth c H locs 0 0 Q (F0 m pc ls st) :=
  xc_S hC hM hl hx hb hml hown hG hI hA hR hn hls hst hcat hdg kk
theorem xc_SN1 (hC : Ct l y bytes maxL ret (rmOf f ln) D tys As w0 (some v) w1) (hM : MWs y bytes maxL ret n) (hl : Cond.methodLinkNest own index y host ∈ tb)
    (hx : p.tables.exec = Jvm.exec) (hb : c.code = cc) (hml : c.maxLocals = nL) (hown : s.vm.findClass own = some m.cls) (hG : G D tys s) (hI : xI D A H0 w0 H locs) (hA : ∀ q, H0.size ≤ q → A q)
    (hR : f + 1 ≤ R.frames ∧ 8 + (maxL + 11) + ln ≤ R.locals)
    (hn : As.length = n) (hls : ls.size = nL) (hst : st = As.reverse ++ rest) (hcat : (rest.map fun v => v.category).sum ≤ 8) (hdg : decode cc pc = .ok (.invokestatic index, 3))
    (kk : ∀ (H1 : Heap) (locs1 : List Loc), xI D A H0 w1 H1 locs1 → W p l e R s m args below meth c H1 locs1 0 0 Q (F0 m (pc + 3) ls (v :: rest))) : W p l e R s m args below meth c H locs 0 0 Q (F0 m pc ls st) :=
  xc_SN hC hM hl hx hb hml hown hG hI hA hR hn hls hst hcat hdg kk
variable {en : (Nat → Int32) → Nat → va_E} {N : Nat} {B : Nat → Nat} {u u1 : Mem}
theorem wG_atE {i : Nat} (hi : i < N) (he : en (u i) i = .inr (ci, fs)) : (wG en N B u)[i]? = some (B i, .inr (ci, fs)) := by rw [wG_at hi, he]
theorem xg_aaldR {i k ad : Nat} {cA : ClassId} {ix : Int32} {C : String} {g : Nat → Option Nat} (t0 : Nat) (hx : p.tables.exec = Jvm.exec) (hb : c.code = cc) (hG : G D tys s) (hI : xI D A H0 (wG en N B u) H locs) (hi : i < N) (he : ∀ r, en r i = .inl (cA, n, .inr (.inr (.inr (.inr g))))) (ht : tys[t0]? = some (cA, .object C)) (hv : ldA n ix = some k) (hg : g k = some ad) (hdg : decode cc pc = .ok (.aaload, 1))
    (kk : W p l e R s m args below meth c H locs 0 0 Q (F0 m (pc + 1) ls (.ref ad :: rest))) : W p l e R s m args below meth c H locs 0 0 Q (F0 m pc ls (.int ix :: .ref (B i) :: rest)) := by
  refine xg_aald t0 hx hb hG hI hi he ht hv hdg ?_
  rw [hg]
  exact kk
end XC1
theorem sm1 {α : Type} {a c : α} (h : some a = some c) : c = a := (Option.some.inj h).symm
theorem sm2 {α β : Type} {a c : α} {b d : β} (h : some (a, b) = some (c, d)) : c = a ∧ d = b := by
  have h := Option.some.inj h
  exact ⟨(congrArg Prod.fst h).symm, (congrArg Prod.snd h).symm⟩
theorem sm3 {α β γ : Type} {a a' : α} {b b' : β} {c c' : γ} (h : some (a, b, c) = some (a', b', c')) : a' = a ∧ b' = b ∧ c' = c := by
  have h := Option.some.inj h
  exact ⟨(congrArg Prod.fst h).symm, (congrArg (fun q => q.2.1) h).symm, (congrArg (fun q => q.2.2) h).symm⟩
theorem sm4 {α β γ δ : Type} {a a' : α} {b b' : β} {c c' : γ} {d d' : δ} (h : some (a, b, c, d) = some (a', b', c', d')) : a' = a ∧ b' = b ∧ c' = c ∧ d' = d := by
  have h := Option.some.inj h
  exact ⟨(congrArg Prod.fst h).symm, (congrArg (fun q => q.2.1) h).symm, (congrArg (fun q => q.2.2.1) h).symm, (congrArg (fun q => q.2.2.2) h).symm⟩
theorem sm5 {α β γ δ ε : Type} {a a' : α} {b b' : β} {c c' : γ} {d d' : δ} {g g' : ε} (h : some (a, b, c, d, g) = some (a', b', c', d', g')) : a' = a ∧ b' = b ∧ c' = c ∧ d' = d ∧ g' = g := by
  have h := Option.some.inj h
  exact ⟨(congrArg Prod.fst h).symm, (congrArg (fun q => q.2.1) h).symm, (congrArg (fun q => q.2.2.1) h).symm, (congrArg (fun q => q.2.2.2.1) h).symm, (congrArg (fun q => q.2.2.2.2) h).symm⟩
