/-! ===== memory as numbers: cell i holds the row u i; what a machine step reads and writes of it ===== -/
abbrev Mem : Type := Nat → Nat → Int32
def upm (u : Mem) (i : Nat) (r : Nat → Int32) : Mem := fun k => if k = i then r else u k
def upf (u : Mem) (i k : Nat) (v : Int32) : Mem := upm u i (upd (u i) k v)
def rd (n : Nat) (f : Nat → Int32) (i : Int32) : Option Int32 := if i < 0 ∨ n ≤ i.toNatClampNeg then none else some (f i.toNatClampNeg)
def wr (n : Nat) (f : Nat → Int32) (i x : Int32) : Option (Nat → Int32) := if i < 0 ∨ n ≤ i.toNatClampNeg then none else some (upd f i.toNatClampNeg x)
def stI (n : Nat) (u : Mem) (a : Nat) (i x : Int32) : Option Mem := if i < 0 ∨ n ≤ i.toNatClampNeg then none else some (upm u a (upd (u a) i.toNatClampNeg x))
def stF (u : Mem) (a k : Nat) (v : Int32) : Option Mem := some (upf u a k v)
def ldA (n : Nat) (i : Int32) : Option Nat := if i < 0 ∨ n ≤ i.toNatClampNeg then none else some i.toNatClampNeg
def bnar (x : Int32) : Int32 := vp_nar .boolean x
def fu : Nat := 4096
def zg (x : Int32) : Option Bool := if x = 0 then some false else if x = 1 then some true else none
def bd2 {α β γ : Type} (x : Option (α × β)) (f : α → β → Option γ) : Option γ := x.bind fun q => f q.1 q.2
def bd3 {α β γ δ : Type} (x : Option (α × β × γ)) (f : α → β → γ → Option δ) : Option δ := x.bind fun q => f q.1 q.2.1 q.2.2
def bd4 {α β γ δ ε : Type} (x : Option (α × β × γ × δ)) (f : α → β → γ → δ → Option ε) : Option ε := x.bind fun q => f q.1 q.2.1 q.2.2.1 q.2.2.2
def bd5 {α β γ δ ε ζ : Type} (x : Option (α × β × γ × δ × ε)) (f : α → β → γ → δ → ε → Option ζ) : Option ζ := x.bind fun q => f q.1 q.2.1 q.2.2.1 q.2.2.2.1 q.2.2.2.2
theorem bd1_some {α β : Type} {x : Option α} {f : α → Option β} {r : β} (h : x.bind f = some r) : ∃ a, x = some a ∧ f a = some r := Option.bind_eq_some_iff.mp h
theorem bd2_some {α β γ : Type} {x : Option (α × β)} {f : α → β → Option γ} {r : γ} (h : bd2 x f = some r) : ∃ a b, x = some (a, b) ∧ f a b = some r := by
  obtain ⟨⟨a, b⟩, h1, h2⟩ := Option.bind_eq_some_iff.mp h
  exact ⟨a, b, h1, h2⟩
theorem bd3_some {α β γ δ : Type} {x : Option (α × β × γ)} {f : α → β → γ → Option δ} {r : δ} (h : bd3 x f = some r) : ∃ a b c, x = some (a, b, c) ∧ f a b c = some r := by
  obtain ⟨⟨a, b, c⟩, h1, h2⟩ := Option.bind_eq_some_iff.mp h
  exact ⟨a, b, c, h1, h2⟩
theorem bd4_some {α β γ δ ε : Type} {x : Option (α × β × γ × δ)} {f : α → β → γ → δ → Option ε} {r : ε} (h : bd4 x f = some r) : ∃ a b c d, x = some (a, b, c, d) ∧ f a b c d = some r := by
  obtain ⟨⟨a, b, c, d⟩, h1, h2⟩ := Option.bind_eq_some_iff.mp h
  exact ⟨a, b, c, d, h1, h2⟩
theorem bd5_some {α β γ δ ε ζ : Type} {x : Option (α × β × γ × δ × ε)} {f : α → β → γ → δ → ε → Option ζ} {r : ζ} (h : bd5 x f = some r) : ∃ a b c d g, x = some (a, b, c, d, g) ∧ f a b c d g = some r := by
  obtain ⟨⟨a, b, c, d, g⟩, h1, h2⟩ := Option.bind_eq_some_iff.mp h
  exact ⟨a, b, c, d, g, h1, h2⟩
theorem rd_some {n : Nat} {f : Nat → Int32} {i v : Int32} (h : rd n f i = some v) : vp_in i n ∧ f i.toNatClampNeg = v := by
  unfold rd at h
  split at h
  · cases h
  · rename_i q
    exact ⟨q, Option.some.inj h⟩
theorem wr_some {n : Nat} {f g : Nat → Int32} {i x : Int32} (h : wr n f i x = some g) : vp_in i n ∧ upd f i.toNatClampNeg x = g := by
  unfold wr at h
  split at h
  · cases h
  · rename_i q
    exact ⟨q, Option.some.inj h⟩
theorem stI_some {n a : Nat} {u v : Mem} {i x : Int32} (h : stI n u a i x = some v) : vp_in i n ∧ upm u a (upd (u a) i.toNatClampNeg x) = v := by
  unfold stI at h
  split at h
  · cases h
  · rename_i q
    exact ⟨q, Option.some.inj h⟩
theorem ldA_some {n k : Nat} {i : Int32} (h : ldA n i = some k) : vp_in i n ∧ i.toNatClampNeg = k ∧ k < n := by
  unfold ldA at h
  split at h
  · cases h
  · rename_i q
    have h1 := Option.some.inj h
    exact ⟨q, h1, by rw [← h1]; exact Nat.not_le.mp fun z => q (Or.inr z)⟩
theorem zg_some {x : Int32} {b : Bool} (h : zg x = some b) : x = b2i b := by
  unfold zg at h
  split at h
  · rename_i q
    cases Option.some.inj h
    exact q
  · split at h
    · rename_i q
      cases Option.some.inj h
      exact q
    · cases h
theorem upm_id (u : Mem) (i : Nat) : upm u i (u i) = u := by
  funext k
  unfold upm
  split
  · rename_i h; rw [h]
  · rfl
theorem upm_same (u : Mem) (i : Nat) (r : Nat → Int32) : upm u i r i = r := by simp [upm]
theorem upm_ne (u : Mem) {i k : Nat} (r : Nat → Int32) (h : k ≠ i) : upm u i r k = u k := by simp [upm, h]
theorem upm_upm (u : Mem) (i : Nat) (r q : Nat → Int32) : upm (upm u i r) i q = upm u i q := by
  funext k
  unfold upm
  split <;> rfl
/-! ===== a world of N cells, laid by e ===== -/
def wG (e : (Nat → Int32) → Nat → va_E) (N : Nat) (B : Nat → Nat) (u : Mem) : va_W := (List.range N).map (fun i => (B i, e (u i) i))
theorem wG_at {e : (Nat → Int32) → Nat → va_E} {N : Nat} {B : Nat → Nat} {u : Mem} {i : Nat} (h : i < N) : (wG e N B u)[i]? = some (B i, e (u i) i) := by
  simp [wG, h]
theorem wG_set {e : (Nat → Int32) → Nat → va_E} {N : Nat} {B : Nat → Nat} {u : Mem} {i : Nat} (h : i < N) (r : Nat → Int32) : (wG e N B u).set i (B i, e r i) = wG e N B (upm u i r) := by
  apply List.ext_getElem?
  intro k
  by_cases hk : k = i
  · subst hk
    rw [List.getElem?_set_self (by simp [wG, h]), wG_at h, upm_same]
  · rw [List.getElem?_set_ne (Ne.symm hk)]
    by_cases hN : k < N
    · rw [wG_at hN, wG_at hN, upm_ne u r hk]
    · rw [List.getElem?_eq_none (by simp [wG]; omega), List.getElem?_eq_none (by simp [wG]; omega)]
section XG
variable {p : Program} {l : Launch} {e : Env} {R : Room} {s : State} {m : MethodId} {args : Array Value} {below : List Frame} {meth : Method} {c : Code} {H : Heap} {locs : List Loc} {Q : State → Prop}
variable {cc : ByteArray} {pc : Nat} {ls : Array Slot} {rest : List Value} {D : va_G} {A : Nat → Prop} {tys : List (ClassId × FieldType)} {H0 : Heap}
variable {en : (Nat → Int32) → Nat → va_E} {N : Nat} {B : Nat → Nat} {u u1 : Mem}
theorem xg_get {own C : String} {T : u_T} {M ci index i : Nat} {fs : List Value} (hx : p.tables.exec = Jvm.exec) (hb : c.code = cc) (hown : s.vm.findClass own = some m.cls) (hG : G D tys s) (hI : xI D A H0 (wG en N B u) H locs) (hi : i < N) (he : en (u i) i = .inr (ci, fs)) (hc : vwCl[ci]? = some (C, T, M)) (hin : ∀ w ∈ u_ws C T M, w ∈ tb) (k : Nat) (hk : k < M) (hl : Cond.fieldLink own index (T k).1 (T k).2.1 (T k).2.2.1 ∈ tb) {v : Value} (hv : fs[k]? = some v) (hdg : decode cc pc = .ok (.getfield index, 3))
    (kk : W p l e R s m args below meth c H locs 0 0 Q (F0 m (pc + 3) ls (v :: rest))) : W p l e R s m args below meth c H locs 0 0 Q (F0 m pc ls (.ref (B i) :: rest)) :=
  va_get (Ts := tb) hx hb (fun w h => hG.2 w h args) hin hown hG.1 hI.1 i (by rw [wG_at hi, he]) hc k hk (hG.2 _ hl args) (fun _ h => h) hv hdg kk
theorem xg_getN {own C host : String} {T : u_T} {M ci index i : Nat} {fs : List Value} (hx : p.tables.exec = Jvm.exec) (hb : c.code = cc) (hown : s.vm.findClass own = some m.cls) (hG : G D tys s) (hI : xI D A H0 (wG en N B u) H locs) (hi : i < N) (he : en (u i) i = .inr (ci, fs)) (hc : vwCl[ci]? = some (C, T, M)) (hin : ∀ w ∈ u_ws C T M, w ∈ tb) (k : Nat) (hk : k < M) (hl : Cond.fieldLinkNest own index (T k).1 (T k).2.1 (T k).2.2.1 host ∈ tb) {v : Value} (hv : fs[k]? = some v) (hdg : decode cc pc = .ok (.getfield index, 3))
    (kk : W p l e R s m args below meth c H locs 0 0 Q (F0 m (pc + 3) ls (v :: rest))) : W p l e R s m args below meth c H locs 0 0 Q (F0 m pc ls (.ref (B i) :: rest)) :=
  va_getN (Ts := tb) hx hb (fun w h => hG.2 w h args) hin hown hG.1 hI.1 i (by rw [wG_at hi, he]) hc k hk (hG.2 _ hl args) (fun _ h => h) hv hdg kk
theorem xg_put {own C : String} {T : u_T} {M ci index i : Nat} {fs : List Value} (hx : p.tables.exec = Jvm.exec) (hb : c.code = cc) (hown : s.vm.findClass own = some m.cls) (hG : G D tys s) (hI : xI D A H0 (wG en N B u) H locs) (hi : i < N) (he : en (u i) i = .inr (ci, fs)) (hc : vwCl[ci]? = some (C, T, M)) (hin : ∀ w ∈ u_ws C T M, w ∈ tb) (ty0 : Nat → FieldType) (hty : ∀ k, k < M → parseFieldDescriptor (T k).2.2.1 = some (ty0 k)) (hnm : ∀ a, a < M → ∀ b, b < M → a ≠ b → (T a).2.1 ≠ (T b).2.1) (k : Nat) (hk : k < M) (hl : Cond.fieldLink own index (T k).1 (T k).2.1 (T k).2.2.1 ∈ tb) {x : Int32} (hfin : (T k).2.2.2 = false) {ty : FieldType} (hd : parseFieldDescriptor (T k).2.2.1 = some ty) (hn : narrow ty (.int x) = .int x) (hfit : fits ty (.int x) = true) (hlen : k < fs.length) (hs : en (upd (u i) k x) i = .inr (ci, fs.set k (.int x))) (hu : stF u i k x = some u1) (hdg : decode cc pc = .ok (.putfield index, 3))
    (kk : ∀ (H1 : Heap) (locs1 : List Loc), xI D A H0 (wG en N B u1) H1 locs1 → W p l e R s m args below meth c H1 locs1 0 0 Q (F0 m (pc + 3) ls rest)) : W p l e R s m args below meth c H locs 0 0 Q (F0 m pc ls (.int x :: .ref (B i) :: rest)) := by
  cases hu
  refine va_put (Ts := tb) hx hb (fun w h => hG.2 w h args) hin ty0 hty hnm hown hG.1 hI.1 hI.2.1 hI.2.2 i (by rw [wG_at hi, he]) hc k hk (hG.2 _ hl args) (fun _ h => h) hfin hd hn hfit hlen hdg (fun H1 locs1 h1 h2 h3 => ?_)
  rw [← hs, wG_set hi] at h1 h2
  exact kk H1 locs1 ⟨h1, h2, h3⟩
theorem xg_putN {own C host : String} {T : u_T} {M ci index i : Nat} {fs : List Value} (hx : p.tables.exec = Jvm.exec) (hb : c.code = cc) (hown : s.vm.findClass own = some m.cls) (hG : G D tys s) (hI : xI D A H0 (wG en N B u) H locs) (hi : i < N) (he : en (u i) i = .inr (ci, fs)) (hc : vwCl[ci]? = some (C, T, M)) (hin : ∀ w ∈ u_ws C T M, w ∈ tb) (ty0 : Nat → FieldType) (hty : ∀ k, k < M → parseFieldDescriptor (T k).2.2.1 = some (ty0 k)) (hnm : ∀ a, a < M → ∀ b, b < M → a ≠ b → (T a).2.1 ≠ (T b).2.1) (k : Nat) (hk : k < M) (hl : Cond.fieldLinkNest own index (T k).1 (T k).2.1 (T k).2.2.1 host ∈ tb) {x : Int32} (hfin : (T k).2.2.2 = false) {ty : FieldType} (hd : parseFieldDescriptor (T k).2.2.1 = some ty) (hn : narrow ty (.int x) = .int x) (hfit : fits ty (.int x) = true) (hlen : k < fs.length) (hs : en (upd (u i) k x) i = .inr (ci, fs.set k (.int x))) (hu : stF u i k x = some u1) (hdg : decode cc pc = .ok (.putfield index, 3))
    (kk : ∀ (H1 : Heap) (locs1 : List Loc), xI D A H0 (wG en N B u1) H1 locs1 → W p l e R s m args below meth c H1 locs1 0 0 Q (F0 m (pc + 3) ls rest)) : W p l e R s m args below meth c H locs 0 0 Q (F0 m pc ls (.int x :: .ref (B i) :: rest)) := by
  cases hu
  refine va_putN (Ts := tb) hx hb (fun w h => hG.2 w h args) hin ty0 hty hnm hown hG.1 hI.1 hI.2.1 hI.2.2 i (by rw [wG_at hi, he]) hc k hk (hG.2 _ hl args) (fun _ h => h) hfin hd hn hfit hlen hdg (fun H1 locs1 h1 h2 h3 => ?_)
  rw [← hs, wG_set hi] at h1 h2
  exact kk H1 locs1 ⟨h1, h2, h3⟩
theorem xg_iald {i n : Nat} {cA : ClassId} {ix v : Int32} (t0 : Nat) (hx : p.tables.exec = Jvm.exec) (hb : c.code = cc) (hG : G D tys s) (hI : xI D A H0 (wG en N B u) H locs) (hi : i < N) (he : ∀ r, en r i = .inl (cA, n, .inl r)) (ht : tys[t0]? = some (cA, .int)) (hv : rd n (u i) ix = some v) (hdg : decode cc pc = .ok (.iaload, 1))
    (kk : W p l e R s m args below meth c H locs 0 0 Q (F0 m (pc + 1) ls (.int v :: rest))) : W p l e R s m args below meth c H locs 0 0 Q (F0 m pc ls (.int ix :: .ref (B i) :: rest)) := by
  obtain ⟨h1, h2⟩ := rd_some hv
  subst h2
  exact va_iald hx hb hG.1 hI.1 i t0 (by rw [wG_at hi, he]) ht h1 hdg kk
theorem xg_zald {i n : Nat} {cA : ClassId} {ix v : Int32} (t0 : Nat) (hx : p.tables.exec = Jvm.exec) (hb : c.code = cc) (hG : G D tys s) (hI : xI D A H0 (wG en N B u) H locs) (hi : i < N) (he : ∀ r, en r i = .inl (cA, n, .inl r)) (ht : tys[t0]? = some (cA, .boolean)) (hv : rd n (u i) ix = some v) (hdg : decode cc pc = .ok (.baload, 1))
    (kk : W p l e R s m args below meth c H locs 0 0 Q (F0 m (pc + 1) ls (.int v :: rest))) : W p l e R s m args below meth c H locs 0 0 Q (F0 m pc ls (.int ix :: .ref (B i) :: rest)) := by
  obtain ⟨h1, h2⟩ := rd_some hv
  subst h2
  exact va_zald hx hb hG.1 hI.1 i t0 (by rw [wG_at hi, he]) ht h1 hdg kk
theorem xg_iast {i n : Nat} {cA : ClassId} {ix x : Int32} (t0 : Nat) (hx : p.tables.exec = Jvm.exec) (hb : c.code = cc) (hG : G D tys s) (hI : xI D A H0 (wG en N B u) H locs) (hi : i < N) (he : ∀ r, en r i = .inl (cA, n, .inl r)) (ht : tys[t0]? = some (cA, .int)) (hv : stI n u i ix x = some u1) (hdg : decode cc pc = .ok (.iastore, 1))
    (kk : ∀ (H1 : Heap) (locs1 : List Loc), xI D A H0 (wG en N B u1) H1 locs1 → W p l e R s m args below meth c H1 locs1 0 0 Q (F0 m (pc + 1) ls rest)) : W p l e R s m args below meth c H locs 0 0 Q (F0 m pc ls (.int x :: .int ix :: .ref (B i) :: rest)) := by
  obtain ⟨h1, h2⟩ := stI_some hv
  subst h2
  refine va_iast hx hb hG.1 hI.1 hI.2.1 hI.2.2 i t0 (by rw [wG_at hi, he]) ht h1 hdg (fun H1 locs1 g1 g2 g3 => ?_)
  rw [← he, wG_set hi] at g1 g2
  exact kk H1 locs1 ⟨g1, g2, g3⟩
theorem xg_zast {i n : Nat} {cA : ClassId} {ix x : Int32} (t0 : Nat) (hx : p.tables.exec = Jvm.exec) (hb : c.code = cc) (hG : G D tys s) (hI : xI D A H0 (wG en N B u) H locs) (hi : i < N) (he : ∀ r, en r i = .inl (cA, n, .inl r)) (ht : tys[t0]? = some (cA, .boolean)) (hv : stI n u i ix (bnar x) = some u1) (hdg : decode cc pc = .ok (.bastore, 1))
    (kk : ∀ (H1 : Heap) (locs1 : List Loc), xI D A H0 (wG en N B u1) H1 locs1 → W p l e R s m args below meth c H1 locs1 0 0 Q (F0 m (pc + 1) ls rest)) : W p l e R s m args below meth c H locs 0 0 Q (F0 m pc ls (.int x :: .int ix :: .ref (B i) :: rest)) := by
  obtain ⟨h1, h2⟩ := stI_some hv
  subst h2
  refine va_zast hx hb hG.1 hI.1 hI.2.1 hI.2.2 i t0 (by rw [wG_at hi, he]) ht h1 hdg (fun H1 locs1 g1 g2 g3 => ?_)
  rw [← he, wG_set hi] at g1 g2
  exact kk H1 locs1 ⟨g1, g2, g3⟩
theorem xg_alen {i n : Nat} {cA : ClassId} {v : Int32} {ty : FieldType} (t0 : Nat) (hx : p.tables.exec = Jvm.exec) (hb : c.code = cc) (hG : G D tys s) (hI : xI D A H0 (wG en N B u) H locs) (hi : i < N) (he : ∀ r, en r i = .inl (cA, n, .inl r)) (ht : tys[t0]? = some (cA, ty)) (hv : Int32.ofNat n = v) (hdg : decode cc pc = .ok (.arraylength, 1))
    (kk : W p l e R s m args below meth c H locs 0 0 Q (F0 m (pc + 1) ls (.int v :: rest))) : W p l e R s m args below meth c H locs 0 0 Q (F0 m pc ls (.ref (B i) :: rest)) :=
  va_alen hx hb hG.1 hI.1 i t0 (by rw [wG_at hi, he]) ht hv hdg kk
theorem xg_aald {i n : Nat} {cA : ClassId} {ix : Int32} {C : String} {k : Nat} {g : Nat → Option Nat} (t0 : Nat) (hx : p.tables.exec = Jvm.exec) (hb : c.code = cc) (hG : G D tys s) (hI : xI D A H0 (wG en N B u) H locs) (hi : i < N) (he : ∀ r, en r i = .inl (cA, n, .inr (.inr (.inr (.inr g))))) (ht : tys[t0]? = some (cA, .object C)) (hv : ldA n ix = some k) (hdg : decode cc pc = .ok (.aaload, 1))
    (kk : W p l e R s m args below meth c H locs 0 0 Q (F0 m (pc + 1) ls (va_rf (g k) :: rest))) : W p l e R s m args below meth c H locs 0 0 Q (F0 m pc ls (.int ix :: .ref (B i) :: rest)) := by
  obtain ⟨h1, h2, -⟩ := ldA_some hv
  subst h2
  exact va_aldq hx hb hG.1 hI.1 i t0 (by rw [wG_at hi, he]) ht h1 hdg kk
/-- System.arraycopy of a whole row of numbers -/
theorem xg_copy {own : String} {index i j n nL : Nat} {cA : ClassId} {z : Int32} (t0 : Nat) (hx : p.tables.exec = Jvm.exec) (hb : c.code = cc) (hml : c.maxLocals = nL) (hls : ls.size = nL) (hown : s.vm.findClass own = some m.cls) (hl : Cond.methodLink own index arraycopyName ∈ tb) (hl2 : Cond.native arraycopyName ∈ tb) (hl3 : Cond.static arraycopyName ∈ tb) (hl4 : Cond.initialized "java/lang/System" ∈ tb)
    (hG : G D tys s) (hI : xI D A H0 (wG en N B u) H locs) (hi : i < N) (hj : j < N) (hei : ∀ r, en r i = .inl (cA, n, .inl r)) (hej : ∀ r, en r j = .inl (cA, n, .inl r)) (ht : tys[t0]? = some (cA, .int)) (hz0 : ¬ z < 0) (hz : z.toNatClampNeg = n) (hu : upm u j (va_cpy (u i) (u j) 0 0 n) = u1)
    (hframes : 1 ≤ R.frames) (hlocals : (rest.map fun v => v.category).sum + (nativeFrameWords "java/lang/System" "arraycopy" 5 + 11) ≤ R.locals) (hdg : decode cc pc = .ok (.invokestatic index, 3))
    (kk : ∀ (H1 : Heap) (locs1 : List Loc), xI D A H0 (wG en N B u1) H1 locs1 → W p l e R s m args below meth c H1 locs1 0 0 Q (F0 m (pc + 3) ls rest)) : W p l e R s m args below meth c H locs 0 0 Q (F0 m pc ls (.int z :: .int 0 :: .ref (B j) :: .int 0 :: .ref (B i) :: rest)) := by
  subst hu
  refine va_copyi (ty := .int) hx hb (hml.trans hls.symm) hown (hG.2 _ hl args) (hG.2 _ hl2 args) (hG.2 _ hl3 args) (hG.2 _ hl4 args) hG.1 hI.1 hI.2.1 hI.2.2 i j t0 t0 (by rw [wG_at hi, hei]) (by rw [wG_at hj, hej]) ht ht rfl (by decide) (by decide) hz0 (by rw [hz]; simp) (by rw [hz]; simp) (fun _ _ => rfl) hframes hlocals hdg (fun H1 locs1 g1 g2 g3 => ?_)
  rw [hz] at g1 g2
  have e0 : (0 : Int32).toNatClampNeg = 0 := by decide
  rw [e0, ← hej, wG_set hj] at g1 g2
  exact kk H1 locs1 ⟨g1, g2, g3⟩
end XG
/-! ===== one outline in any world ===== -/
def wO (ws : va_W) (k1 : Nat) (cI : ClassId) (a : Nat) (f : Nat → Int32) : va_W := ws.set k1 (a, .inl (cI, 80, .inl f))
def OK (ws : va_W) (k0 k1 o a : Nat) : Prop := ws[k0]? = some (o, .inr (4, [.ref a])) ∧ k1 < ws.length ∧ k0 ≠ k1
theorem wO_at0 {ws : va_W} {k0 k1 o a : Nat} {cI : ClassId} {f : Nat → Int32} (h : OK ws k0 k1 o a) : (wO ws k1 cI a f)[k0]? = some (o, .inr (4, [.ref a])) := by
  rw [wO, List.getElem?_set_ne (Ne.symm h.2.2)]
  exact h.1
theorem wO_at1 {ws : va_W} {k0 k1 o a : Nat} {cI : ClassId} {f : Nat → Int32} (h : OK ws k0 k1 o a) : (wO ws k1 cI a f)[k1]? = some (a, .inl (cI, 80, .inl f)) := by
  rw [wO, List.getElem?_set_self h.2.1]
theorem wO_set {ws : va_W} {k1 a : Nat} {cI : ClassId} {f g : Nat → Int32} : (wO ws k1 cI a f).set k1 (a, .inl (cI, 80, .inl g)) = wO ws k1 cI a g := by
  simp [wO]
section XO
variable {p : Program} {l : Launch} {e : Env} {R : Room} {s : State} {m : MethodId} {args : Array Value} {below : List Frame} {meth : Method} {c : Code} {H : Heap} {locs : List Loc} {Q : State → Prop}
variable {cc : ByteArray} {pc : Nat} {ls : Array Slot} {rest : List Value} {D : va_G} {A : Nat → Prop} {tys : List (ClassId × FieldType)} {H0 : Heap}
variable {ws : va_W} {k0 k1 o a : Nat} {cI : ClassId} {f f1 : Nat → Int32}
theorem xo_get {own : String} {index : Nat} (hx : p.tables.exec = Jvm.exec) (hb : c.code = cc) (hown : s.vm.findClass own = some m.cls) (hG : G D tys s) (hI : xI D A H0 (wO ws k1 cI a f) H locs) (hO : OK ws k0 k1 o a) (hl : Cond.fieldLink own index (TX4 0).1 (TX4 0).2.1 (TX4 0).2.2.1 ∈ tb) (hdg : decode cc pc = .ok (.getfield index, 3))
    (kk : W p l e R s m args below meth c H locs 0 0 Q (F0 m (pc + 3) ls (.ref a :: rest))) : W p l e R s m args below meth c H locs 0 0 Q (F0 m pc ls (.ref o :: rest)) :=
  va_get (Ts := tb) (C := RX4) (T := TX4) (N := 1) hx hb (fun w h => hG.2 w h args) inX4 hown hG.1 hI.1 k0 (wO_at0 hO) rfl 0 (by decide) (hG.2 _ hl args) (fun _ h => h) rfl hdg kk
theorem xo_iald {ix v : Int32} (t0 : Nat) (hx : p.tables.exec = Jvm.exec) (hb : c.code = cc) (hG : G D tys s) (hI : xI D A H0 (wO ws k1 cI a f) H locs) (hO : OK ws k0 k1 o a) (ht : tys[t0]? = some (cI, .int)) (hv : rd 80 f ix = some v) (hdg : decode cc pc = .ok (.iaload, 1))
    (kk : W p l e R s m args below meth c H locs 0 0 Q (F0 m (pc + 1) ls (.int v :: rest))) : W p l e R s m args below meth c H locs 0 0 Q (F0 m pc ls (.int ix :: .ref a :: rest)) := by
  obtain ⟨h1, h2⟩ := rd_some hv
  subst h2
  exact va_iald hx hb hG.1 hI.1 k1 t0 (wO_at1 hO) ht h1 hdg kk
theorem xo_iast {ix x : Int32} (t0 : Nat) (hx : p.tables.exec = Jvm.exec) (hb : c.code = cc) (hG : G D tys s) (hI : xI D A H0 (wO ws k1 cI a f) H locs) (hO : OK ws k0 k1 o a) (ht : tys[t0]? = some (cI, .int)) (hv : wr 80 f ix x = some f1) (hdg : decode cc pc = .ok (.iastore, 1))
    (kk : ∀ (H1 : Heap) (locs1 : List Loc), xI D A H0 (wO ws k1 cI a f1) H1 locs1 → W p l e R s m args below meth c H1 locs1 0 0 Q (F0 m (pc + 1) ls rest)) : W p l e R s m args below meth c H locs 0 0 Q (F0 m pc ls (.int x :: .int ix :: .ref a :: rest)) := by
  obtain ⟨h1, h2⟩ := wr_some hv
  subst h2
  refine va_iast hx hb hG.1 hI.1 hI.2.1 hI.2.2 k1 t0 (wO_at1 hO) ht h1 hdg (fun H1 locs1 g1 g2 g3 => ?_)
  rw [wO_set] at g1 g2
  exact kk H1 locs1 ⟨g1, g2, g3⟩
end XO
