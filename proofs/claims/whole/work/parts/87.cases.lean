/-! ===== THE LAW: its two objects side by side, call by call (printed by wip/whole/mklaw.py) ===== -/
section XL
variable {p : Program} {l : Launch} {e : Env} {s : State} {m : MethodId} {args : Array Value} {below : List Frame} {meth : Method} {c : Code} {H : Heap} {locs : List Loc} {cells slots : Nat} {Q : State → Prop}
variable {pc : Nat} {ls : Array Slot} {rest : List Value} {D : va_G} {A B : Nat → Nat} {cI cZ cD : ClassId} {u v : Mem} {b L i : Nat} {xs : Nat → Int32}
abbrev nw (s : State) : Nat → Prop := fun q => s.heap.size ≤ q
abbrev lk4 (i a y b : Nat) : List (Nat × Value) := [(3, .int (nI i)), (2, .ref y), (1, .ref a), (0, .ref b)]
/-- one int of the script -/
theorem xl_arg {j : Int} {k : Nat} {w : va_W} (hx : p.tables.exec = Jvm.exec) (hb : c.code = code) (hX : va_X b L xs s s.heap) (hbl : b < s.heap.size) (hL : L ≤ 3072) {a y : Nat} (hl : lv_has ls 4 (lk4 i a y b)) (hI : xI D (nw s) s.heap w H locs) (hj : Int32.ofInt j = nI k) (hk : i + k < L)
    (d0 : decode code pc = .ok (.aload_n 0, 1)) (d1 : decode code (pc + 1) = .ok (.iload_n 3, 1)) (d2 : decode code (pc + 2) = .ok (.iconst j, 1)) (d3 : decode code (pc + 3) = .ok (.iadd, 1)) (d4 : decode code (pc + 4) = .ok (.iaload, 1))
    (kk : W p l e room_1 s m args below meth c H locs cells slots Q (F0 m (pc + 5) ls (.int (xs (i + k)) :: rest))) : W p l e room_1 s m args below meth c H locs cells slots Q (F0 m pc ls rest) := by
  refine lv_aload_n hx hb d0 rfl (lv_at hl 3 rfl) ?_
  refine lv_iload_n hx hb d1 rfl (lv_at hl 0 rfl) ?_
  refine lv_iconst (v := nI k) hx hb d2 hj ?_
  refine lv_iadd hx hb d3 ?_
  rw [i_add]
  refine va_sld (i := nI (i + k)) hx hb hX hbl (fun h => absurd h (Nat.not_le.mpr hbl)) hI.2.2 (fun h => ?_) d4 ?_
  · rcases h with h | h
    · exact i_nn (by omega) h
    · rw [i_tn (by omega)] at h
      omega
  · rw [i_tn (by omega)]
    exact kk
theorem xl_lcmp {r : Int64} (hx : p.tables.exec = Jvm.exec) (hb : c.code = code) (hdg : decode code pc = .ok (.lcmp, 1))
    (kk : W p l e room_1 s m args below meth c H locs cells slots Q (F0 m (pc + 1) ls (.int 0 :: rest))) : W p l e room_1 s m args below meth c H locs cells slots Q (F0 m pc ls (.long r :: .long r :: rest)) := by
  intro T hT X
  obtain ⟨t, a, z⟩ := kk T hT X
  refine ⟨t, ?_, z⟩
  jvm_step X.here [X.here.top, hx, hb, hdg]
  simpa using a
set_option maxHeartbeats 1000000 in
theorem lc_adds (hx : p.tables.exec = Jvm.exec) (hb : c.code = code) (hml : c.maxLocals = 4) (hown : s.vm.findClass RL = some m.cls) (hG : G D (tyL cI cZ cD) s) (hX : va_X b L xs s s.heap) (hbl : b < s.heap.size) (hL : L ≤ 3072) (hi : i + 6 ≤ L) (hl : lv_has ls 4 (lk4 i (A 58) (B 0) b)) (hR : Rel u v) (hI : xI D (nw s) s.heap (wX A cI cZ cD u ++ wY B cI v) H locs) (hcl : cells ≤ room_1.cells ∧ slots ≤ room_1.slots)
    (kk : ∀ (H : Heap) (locs : List Loc) (u v : Mem), Rel u v → xI D (nw s) s.heap (wX A cI cZ cD u ++ wY B cI v) H locs → W p l e room_1 s m args below meth c H locs cells slots Q (F0 m 830 ls [])) : W p l e room_1 s m args below meth c H locs cells slots Q (F0 m 140 ls []) := by
  obtain ⟨r, u1, v1, hE1, hE2, hR1⟩ := st_adds hR (xs (i + 1)) (xs (i + 2)) (xs (i + 3)) (xs (i + 4)) (xs (i + 5))
  refine lv_aload_n hx hb dL_law_140 rfl (lv_at hl 2 rfl) ?_
  refine xl_arg (k := 1) hx hb hX hbl hL hl hI (by decide) (by omega) dL_law_141 dL_law_142 dL_law_143 dL_law_144 dL_law_145 ?_
  refine xl_arg (k := 2) hx hb hX hbl hL hl hI (by decide) (by omega) dL_law_146 dL_law_147 dL_law_148 dL_law_149 dL_law_150 ?_
  refine xl_arg (k := 3) hx hb hX hbl hL hl hI (by decide) (by omega) dL_law_151 dL_law_152 dL_law_153 dL_law_154 dL_law_155 ?_
  refine xl_arg (k := 4) hx hb hX hbl hL hl hI (by decide) (by omega) dL_law_156 dL_law_157 dL_law_158 dL_law_159 dL_law_160 ?_
  refine xl_arg (k := 5) hx hb hX hbl hL hl hI (by decide) (by omega) dL_law_161 dL_law_162 dL_law_163 dL_law_164 dL_law_165 ?_
  refine xk_V (ws := wY B cI v) (As := [.int (xs (i + 1)), .int (xs (i + 2)), .int (xs (i + 3)), .int (xs (i + 4)), .int (xs (i + 5))]) (rest := []) (q0 := 58) (c_X8_adds (l := l) (D := D) (A := A) (cI := cI) (cZ := cZ) (cD := cD) hE1) mw_X8_adds km_L_13 hx hb hml hown hG hI.comm (fun _ h => h) (wG_atE (by omega) eX_58) rfl rfl ⟨(Nat.le_of_ble_eq_true rfl), (Nat.le_of_ble_eq_true rfl)⟩ ⟨hcl.1, hcl.2⟩ rfl hl.1 rfl (Nat.le_of_ble_eq_true rfl) dL_law_166 (fun H locs hI => ?_)
  have hI := hI.comm
  refine lv_aload_n hx hb dL_law_169 rfl (lv_at hl 1 rfl) ?_
  refine xl_arg (k := 1) hx hb hX hbl hL hl hI (by decide) (by omega) dL_law_170 dL_law_171 dL_law_172 dL_law_173 dL_law_174 ?_
  refine xl_arg (k := 2) hx hb hX hbl hL hl hI (by decide) (by omega) dL_law_175 dL_law_176 dL_law_177 dL_law_178 dL_law_179 ?_
  refine xl_arg (k := 3) hx hb hX hbl hL hl hI (by decide) (by omega) dL_law_180 dL_law_181 dL_law_182 dL_law_183 dL_law_184 ?_
  refine xl_arg (k := 4) hx hb hX hbl hL hl hI (by decide) (by omega) dL_law_185 dL_law_186 dL_law_187 dL_law_188 dL_law_189 ?_
  refine xl_arg (k := 5) hx hb hX hbl hL hl hI (by decide) (by omega) dL_law_190 dL_law_191 dL_law_192 dL_law_193 dL_law_194 ?_
  refine xk_V (ws := wX A cI cZ cD u1) (As := [.int (xs (i + 1)), .int (xs (i + 2)), .int (xs (i + 3)), .int (xs (i + 4)), .int (xs (i + 5))]) (rest := [.int r]) (q0 := 0) (c_X9_adds (l := l) (D := D) (A := B) (cI := cI) (cZ := cZ) (cD := cD) hE2) mw_X9_adds km_L_17 hx hb hml hown hG hI (fun _ h => h) (wG_atE (by omega) eY_0) rfl rfl ⟨(Nat.le_of_ble_eq_true rfl), (Nat.le_of_ble_eq_true rfl)⟩ ⟨hcl.1, hcl.2⟩ rfl hl.1 rfl (Nat.le_of_ble_eq_true rfl) dL_law_195 (fun H locs hI => ?_)
  exact lv_icmp_eq (tgt := 830) hx hb dL_law_198 (by decide) (fun _ => kk H locs u1 v1 hR1 hI) (fun z => absurd rfl z)
set_option maxHeartbeats 1000000 in
theorem lc_moves (hx : p.tables.exec = Jvm.exec) (hb : c.code = code) (hml : c.maxLocals = 4) (hown : s.vm.findClass RL = some m.cls) (hG : G D (tyL cI cZ cD) s) (hX : va_X b L xs s s.heap) (hbl : b < s.heap.size) (hL : L ≤ 3072) (hi : i + 6 ≤ L) (hl : lv_has ls 4 (lk4 i (A 58) (B 0) b)) (hR : Rel u v) (hI : xI D (nw s) s.heap (wX A cI cZ cD u ++ wY B cI v) H locs) (hcl : cells ≤ room_1.cells ∧ slots ≤ room_1.slots)
    (kk : ∀ (H : Heap) (locs : List Loc) (u v : Mem), Rel u v → xI D (nw s) s.heap (wX A cI cZ cD u ++ wY B cI v) H locs → W p l e room_1 s m args below meth c H locs cells slots Q (F0 m 830 ls [])) : W p l e room_1 s m args below meth c H locs cells slots Q (F0 m 203 ls []) := by
  obtain ⟨r, u1, v1, hE1, hE2, hR1⟩ := st_moves hR (xs (i + 1)) (xs (i + 2)) (xs (i + 3)) (xs (i + 4))
  refine lv_aload_n hx hb dL_law_203 rfl (lv_at hl 2 rfl) ?_
  refine xl_arg (k := 1) hx hb hX hbl hL hl hI (by decide) (by omega) dL_law_204 dL_law_205 dL_law_206 dL_law_207 dL_law_208 ?_
  refine xl_arg (k := 2) hx hb hX hbl hL hl hI (by decide) (by omega) dL_law_209 dL_law_210 dL_law_211 dL_law_212 dL_law_213 ?_
  refine xl_arg (k := 3) hx hb hX hbl hL hl hI (by decide) (by omega) dL_law_214 dL_law_215 dL_law_216 dL_law_217 dL_law_218 ?_
  refine xl_arg (k := 4) hx hb hX hbl hL hl hI (by decide) (by omega) dL_law_219 dL_law_220 dL_law_221 dL_law_222 dL_law_223 ?_
  refine xk_V (ws := wY B cI v) (As := [.int (xs (i + 1)), .int (xs (i + 2)), .int (xs (i + 3)), .int (xs (i + 4))]) (rest := []) (q0 := 58) (c_X8_moves (l := l) (D := D) (A := A) (cI := cI) (cZ := cZ) (cD := cD) hE1) mw_X8_moves km_L_18 hx hb hml hown hG hI.comm (fun _ h => h) (wG_atE (by omega) eX_58) rfl rfl ⟨(Nat.le_of_ble_eq_true rfl), (Nat.le_of_ble_eq_true rfl)⟩ ⟨hcl.1, hcl.2⟩ rfl hl.1 rfl (Nat.le_of_ble_eq_true rfl) dL_law_224 (fun H locs hI => ?_)
  have hI := hI.comm
  refine lv_aload_n hx hb dL_law_227 rfl (lv_at hl 1 rfl) ?_
  refine xl_arg (k := 1) hx hb hX hbl hL hl hI (by decide) (by omega) dL_law_228 dL_law_229 dL_law_230 dL_law_231 dL_law_232 ?_
  refine xl_arg (k := 2) hx hb hX hbl hL hl hI (by decide) (by omega) dL_law_233 dL_law_234 dL_law_235 dL_law_236 dL_law_237 ?_
  refine xl_arg (k := 3) hx hb hX hbl hL hl hI (by decide) (by omega) dL_law_238 dL_law_239 dL_law_240 dL_law_241 dL_law_242 ?_
  refine xl_arg (k := 4) hx hb hX hbl hL hl hI (by decide) (by omega) dL_law_243 dL_law_244 dL_law_245 dL_law_246 dL_law_247 ?_
  refine xk_V (ws := wX A cI cZ cD u1) (As := [.int (xs (i + 1)), .int (xs (i + 2)), .int (xs (i + 3)), .int (xs (i + 4))]) (rest := [.int r]) (q0 := 0) (c_X9_moves (l := l) (D := D) (A := B) (cI := cI) (cZ := cZ) (cD := cD) hE2) mw_X9_moves km_L_22 hx hb hml hown hG hI (fun _ h => h) (wG_atE (by omega) eY_0) rfl rfl ⟨(Nat.le_of_ble_eq_true rfl), (Nat.le_of_ble_eq_true rfl)⟩ ⟨hcl.1, hcl.2⟩ rfl hl.1 rfl (Nat.le_of_ble_eq_true rfl) dL_law_248 (fun H locs hI => ?_)
  exact lv_icmp_eq (tgt := 830) hx hb dL_law_251 (by decide) (fun _ => kk H locs u1 v1 hR1 hI) (fun z => absurd rfl z)
set_option maxHeartbeats 1000000 in
theorem lc_renames (hx : p.tables.exec = Jvm.exec) (hb : c.code = code) (hml : c.maxLocals = 4) (hown : s.vm.findClass RL = some m.cls) (hG : G D (tyL cI cZ cD) s) (hX : va_X b L xs s s.heap) (hbl : b < s.heap.size) (hL : L ≤ 3072) (hi : i + 6 ≤ L) (hl : lv_has ls 4 (lk4 i (A 58) (B 0) b)) (hR : Rel u v) (hI : xI D (nw s) s.heap (wX A cI cZ cD u ++ wY B cI v) H locs) (hcl : cells ≤ room_1.cells ∧ slots ≤ room_1.slots)
    (kk : ∀ (H : Heap) (locs : List Loc) (u v : Mem), Rel u v → xI D (nw s) s.heap (wX A cI cZ cD u ++ wY B cI v) H locs → W p l e room_1 s m args below meth c H locs cells slots Q (F0 m 830 ls [])) : W p l e room_1 s m args below meth c H locs cells slots Q (F0 m 256 ls []) := by
  obtain ⟨r, u1, v1, hE1, hE2, hR1⟩ := st_renames hR (xs (i + 1)) (xs (i + 2)) (xs (i + 3))
  refine lv_aload_n hx hb dL_law_256 rfl (lv_at hl 2 rfl) ?_
  refine xl_arg (k := 1) hx hb hX hbl hL hl hI (by decide) (by omega) dL_law_257 dL_law_258 dL_law_259 dL_law_260 dL_law_261 ?_
  refine xl_arg (k := 2) hx hb hX hbl hL hl hI (by decide) (by omega) dL_law_262 dL_law_263 dL_law_264 dL_law_265 dL_law_266 ?_
  refine xl_arg (k := 3) hx hb hX hbl hL hl hI (by decide) (by omega) dL_law_267 dL_law_268 dL_law_269 dL_law_270 dL_law_271 ?_
  refine xk_V (ws := wY B cI v) (As := [.int (xs (i + 1)), .int (xs (i + 2)), .int (xs (i + 3))]) (rest := []) (q0 := 58) (c_X8_renames (l := l) (D := D) (A := A) (cI := cI) (cZ := cZ) (cD := cD) hE1) mw_X8_renames km_L_23 hx hb hml hown hG hI.comm (fun _ h => h) (wG_atE (by omega) eX_58) rfl rfl ⟨(Nat.le_of_ble_eq_true rfl), (Nat.le_of_ble_eq_true rfl)⟩ ⟨hcl.1, hcl.2⟩ rfl hl.1 rfl (Nat.le_of_ble_eq_true rfl) dL_law_272 (fun H locs hI => ?_)
  have hI := hI.comm
  refine lv_aload_n hx hb dL_law_275 rfl (lv_at hl 1 rfl) ?_
  refine xl_arg (k := 1) hx hb hX hbl hL hl hI (by decide) (by omega) dL_law_276 dL_law_277 dL_law_278 dL_law_279 dL_law_280 ?_
  refine xl_arg (k := 2) hx hb hX hbl hL hl hI (by decide) (by omega) dL_law_281 dL_law_282 dL_law_283 dL_law_284 dL_law_285 ?_
  refine xl_arg (k := 3) hx hb hX hbl hL hl hI (by decide) (by omega) dL_law_286 dL_law_287 dL_law_288 dL_law_289 dL_law_290 ?_
  refine xk_V (ws := wX A cI cZ cD u1) (As := [.int (xs (i + 1)), .int (xs (i + 2)), .int (xs (i + 3))]) (rest := [.int r]) (q0 := 0) (c_X9_renames (l := l) (D := D) (A := B) (cI := cI) (cZ := cZ) (cD := cD) hE2) mw_X9_renames km_L_27 hx hb hml hown hG hI (fun _ h => h) (wG_atE (by omega) eY_0) rfl rfl ⟨(Nat.le_of_ble_eq_true rfl), (Nat.le_of_ble_eq_true rfl)⟩ ⟨hcl.1, hcl.2⟩ rfl hl.1 rfl (Nat.le_of_ble_eq_true rfl) dL_law_291 (fun H locs hI => ?_)
  exact lv_icmp_eq (tgt := 830) hx hb dL_law_294 (by decide) (fun _ => kk H locs u1 v1 hR1 hI) (fun z => absurd rfl z)
set_option maxHeartbeats 1000000 in
theorem lc_edits (hx : p.tables.exec = Jvm.exec) (hb : c.code = code) (hml : c.maxLocals = 4) (hown : s.vm.findClass RL = some m.cls) (hG : G D (tyL cI cZ cD) s) (hX : va_X b L xs s s.heap) (hbl : b < s.heap.size) (hL : L ≤ 3072) (hi : i + 6 ≤ L) (hl : lv_has ls 4 (lk4 i (A 58) (B 0) b)) (hR : Rel u v) (hI : xI D (nw s) s.heap (wX A cI cZ cD u ++ wY B cI v) H locs) (hcl : cells ≤ room_1.cells ∧ slots ≤ room_1.slots)
    (kk : ∀ (H : Heap) (locs : List Loc) (u v : Mem), Rel u v → xI D (nw s) s.heap (wX A cI cZ cD u ++ wY B cI v) H locs → W p l e room_1 s m args below meth c H locs cells slots Q (F0 m 830 ls [])) : W p l e room_1 s m args below meth c H locs cells slots Q (F0 m 299 ls []) := by
  obtain ⟨r, u1, v1, hE1, hE2, hR1⟩ := st_edits hR (xs (i + 1)) (xs (i + 2)) (xs (i + 3))
  refine lv_aload_n hx hb dL_law_299 rfl (lv_at hl 2 rfl) ?_
  refine xl_arg (k := 1) hx hb hX hbl hL hl hI (by decide) (by omega) dL_law_300 dL_law_301 dL_law_302 dL_law_303 dL_law_304 ?_
  refine xl_arg (k := 2) hx hb hX hbl hL hl hI (by decide) (by omega) dL_law_305 dL_law_306 dL_law_307 dL_law_308 dL_law_309 ?_
  refine xl_arg (k := 3) hx hb hX hbl hL hl hI (by decide) (by omega) dL_law_310 dL_law_311 dL_law_312 dL_law_313 dL_law_314 ?_
  refine xk_V (ws := wY B cI v) (As := [.int (xs (i + 1)), .int (xs (i + 2)), .int (xs (i + 3))]) (rest := []) (q0 := 58) (c_X8_edits (l := l) (D := D) (A := A) (cI := cI) (cZ := cZ) (cD := cD) hE1) mw_X8_edits km_L_28 hx hb hml hown hG hI.comm (fun _ h => h) (wG_atE (by omega) eX_58) rfl rfl ⟨(Nat.le_of_ble_eq_true rfl), (Nat.le_of_ble_eq_true rfl)⟩ ⟨hcl.1, hcl.2⟩ rfl hl.1 rfl (Nat.le_of_ble_eq_true rfl) dL_law_315 (fun H locs hI => ?_)
  have hI := hI.comm
  refine lv_aload_n hx hb dL_law_318 rfl (lv_at hl 1 rfl) ?_
  refine xl_arg (k := 1) hx hb hX hbl hL hl hI (by decide) (by omega) dL_law_319 dL_law_320 dL_law_321 dL_law_322 dL_law_323 ?_
  refine xl_arg (k := 2) hx hb hX hbl hL hl hI (by decide) (by omega) dL_law_324 dL_law_325 dL_law_326 dL_law_327 dL_law_328 ?_
  refine xl_arg (k := 3) hx hb hX hbl hL hl hI (by decide) (by omega) dL_law_329 dL_law_330 dL_law_331 dL_law_332 dL_law_333 ?_
  refine xk_V (ws := wX A cI cZ cD u1) (As := [.int (xs (i + 1)), .int (xs (i + 2)), .int (xs (i + 3))]) (rest := [.int r]) (q0 := 0) (c_X9_edits (l := l) (D := D) (A := B) (cI := cI) (cZ := cZ) (cD := cD) hE2) mw_X9_edits km_L_31 hx hb hml hown hG hI (fun _ h => h) (wG_atE (by omega) eY_0) rfl rfl ⟨(Nat.le_of_ble_eq_true rfl), (Nat.le_of_ble_eq_true rfl)⟩ ⟨hcl.1, hcl.2⟩ rfl hl.1 rfl (Nat.le_of_ble_eq_true rfl) dL_law_334 (fun H locs hI => ?_)
  exact lv_icmp_eq (tgt := 830) hx hb dL_law_337 (by decide) (fun _ => kk H locs u1 v1 hR1 hI) (fun z => absurd rfl z)
set_option maxHeartbeats 1000000 in
theorem lc_deletes (hx : p.tables.exec = Jvm.exec) (hb : c.code = code) (hml : c.maxLocals = 4) (hown : s.vm.findClass RL = some m.cls) (hG : G D (tyL cI cZ cD) s) (hX : va_X b L xs s s.heap) (hbl : b < s.heap.size) (hL : L ≤ 3072) (hi : i + 6 ≤ L) (hl : lv_has ls 4 (lk4 i (A 58) (B 0) b)) (hR : Rel u v) (hI : xI D (nw s) s.heap (wX A cI cZ cD u ++ wY B cI v) H locs) (hcl : cells ≤ room_1.cells ∧ slots ≤ room_1.slots)
    (kk : ∀ (H : Heap) (locs : List Loc) (u v : Mem), Rel u v → xI D (nw s) s.heap (wX A cI cZ cD u ++ wY B cI v) H locs → W p l e room_1 s m args below meth c H locs cells slots Q (F0 m 830 ls [])) : W p l e room_1 s m args below meth c H locs cells slots Q (F0 m 342 ls []) := by
  obtain ⟨r, u1, v1, hE1, hE2, hR1⟩ := st_deletes hR (xs (i + 1)) (xs (i + 2))
  refine lv_aload_n hx hb dL_law_342 rfl (lv_at hl 2 rfl) ?_
  refine xl_arg (k := 1) hx hb hX hbl hL hl hI (by decide) (by omega) dL_law_343 dL_law_344 dL_law_345 dL_law_346 dL_law_347 ?_
  refine xl_arg (k := 2) hx hb hX hbl hL hl hI (by decide) (by omega) dL_law_348 dL_law_349 dL_law_350 dL_law_351 dL_law_352 ?_
  refine xk_V (ws := wY B cI v) (As := [.int (xs (i + 1)), .int (xs (i + 2))]) (rest := []) (q0 := 58) (c_X8_deletes (l := l) (D := D) (A := A) (cI := cI) (cZ := cZ) (cD := cD) hE1) mw_X8_deletes km_L_32 hx hb hml hown hG hI.comm (fun _ h => h) (wG_atE (by omega) eX_58) rfl rfl ⟨(Nat.le_of_ble_eq_true rfl), (Nat.le_of_ble_eq_true rfl)⟩ ⟨hcl.1, hcl.2⟩ rfl hl.1 rfl (Nat.le_of_ble_eq_true rfl) dL_law_353 (fun H locs hI => ?_)
  have hI := hI.comm
  refine lv_aload_n hx hb dL_law_356 rfl (lv_at hl 1 rfl) ?_
  refine xl_arg (k := 1) hx hb hX hbl hL hl hI (by decide) (by omega) dL_law_357 dL_law_358 dL_law_359 dL_law_360 dL_law_361 ?_
  refine xl_arg (k := 2) hx hb hX hbl hL hl hI (by decide) (by omega) dL_law_362 dL_law_363 dL_law_364 dL_law_365 dL_law_366 ?_
  refine xk_V (ws := wX A cI cZ cD u1) (As := [.int (xs (i + 1)), .int (xs (i + 2))]) (rest := [.int r]) (q0 := 0) (c_X9_deletes (l := l) (D := D) (A := B) (cI := cI) (cZ := cZ) (cD := cD) hE2) mw_X9_deletes km_L_36 hx hb hml hown hG hI (fun _ h => h) (wG_atE (by omega) eY_0) rfl rfl ⟨(Nat.le_of_ble_eq_true rfl), (Nat.le_of_ble_eq_true rfl)⟩ ⟨hcl.1, hcl.2⟩ rfl hl.1 rfl (Nat.le_of_ble_eq_true rfl) dL_law_367 (fun H locs hI => ?_)
  exact lv_icmp_eq (tgt := 830) hx hb dL_law_370 (by decide) (fun _ => kk H locs u1 v1 hR1 hI) (fun z => absurd rfl z)
set_option maxHeartbeats 1000000 in
theorem lc_forks (hx : p.tables.exec = Jvm.exec) (hb : c.code = code) (hml : c.maxLocals = 4) (hown : s.vm.findClass RL = some m.cls) (hG : G D (tyL cI cZ cD) s) (hX : va_X b L xs s s.heap) (hbl : b < s.heap.size) (hL : L ≤ 3072) (hi : i + 6 ≤ L) (hl : lv_has ls 4 (lk4 i (A 58) (B 0) b)) (hR : Rel u v) (hI : xI D (nw s) s.heap (wX A cI cZ cD u ++ wY B cI v) H locs) (hcl : cells ≤ room_1.cells ∧ slots ≤ room_1.slots)
    (kk : ∀ (H : Heap) (locs : List Loc) (u v : Mem), Rel u v → xI D (nw s) s.heap (wX A cI cZ cD u ++ wY B cI v) H locs → W p l e room_1 s m args below meth c H locs cells slots Q (F0 m 830 ls [])) : W p l e room_1 s m args below meth c H locs cells slots Q (F0 m 375 ls []) := by
  obtain ⟨r, u1, v1, hE1, hE2, hR1⟩ := st_forks hR 
  refine lv_aload_n hx hb dL_law_375 rfl (lv_at hl 2 rfl) ?_
  refine xk_V (ws := wY B cI v) (As := []) (rest := []) (q0 := 58) (c_X8_forks (l := l) (D := D) (A := A) (cI := cI) (cZ := cZ) (cD := cD) hE1) mw_X8_forks km_L_37 hx hb hml hown hG hI.comm (fun _ h => h) (wG_atE (by omega) eX_58) rfl rfl ⟨(Nat.le_of_ble_eq_true rfl), (Nat.le_of_ble_eq_true rfl)⟩ ⟨hcl.1, hcl.2⟩ rfl hl.1 rfl (Nat.le_of_ble_eq_true rfl) dL_law_376 (fun H locs hI => ?_)
  have hI := hI.comm
  refine lv_aload_n hx hb dL_law_379 rfl (lv_at hl 1 rfl) ?_
  refine xk_V (ws := wX A cI cZ cD u1) (As := []) (rest := [.int r]) (q0 := 0) (c_X9_forks (l := l) (D := D) (A := B) (cI := cI) (cZ := cZ) (cD := cD) hE2) mw_X9_forks km_L_41 hx hb hml hown hG hI (fun _ h => h) (wG_atE (by omega) eY_0) rfl rfl ⟨(Nat.le_of_ble_eq_true rfl), (Nat.le_of_ble_eq_true rfl)⟩ ⟨hcl.1, hcl.2⟩ rfl hl.1 rfl (Nat.le_of_ble_eq_true rfl) dL_law_380 (fun H locs hI => ?_)
  exact lv_icmp_eq (tgt := 830) hx hb dL_law_383 (by decide) (fun _ => kk H locs u1 v1 hR1 hI) (fun z => absurd rfl z)
set_option maxHeartbeats 1000000 in
theorem lc_prefers (hx : p.tables.exec = Jvm.exec) (hb : c.code = code) (hml : c.maxLocals = 4) (hown : s.vm.findClass RL = some m.cls) (hG : G D (tyL cI cZ cD) s) (hX : va_X b L xs s s.heap) (hbl : b < s.heap.size) (hL : L ≤ 3072) (hi : i + 6 ≤ L) (hl : lv_has ls 4 (lk4 i (A 58) (B 0) b)) (hR : Rel u v) (hI : xI D (nw s) s.heap (wX A cI cZ cD u ++ wY B cI v) H locs) (hcl : cells ≤ room_1.cells ∧ slots ≤ room_1.slots)
    (kk : ∀ (H : Heap) (locs : List Loc) (u v : Mem), Rel u v → xI D (nw s) s.heap (wX A cI cZ cD u ++ wY B cI v) H locs → W p l e room_1 s m args below meth c H locs cells slots Q (F0 m 830 ls [])) : W p l e room_1 s m args below meth c H locs cells slots Q (F0 m 388 ls []) := by
  obtain ⟨r, u1, v1, hE1, hE2, hR1⟩ := st_prefers hR (xs (i + 1))
  refine lv_aload_n hx hb dL_law_388 rfl (lv_at hl 2 rfl) ?_
  refine xl_arg (k := 1) hx hb hX hbl hL hl hI (by decide) (by omega) dL_law_389 dL_law_390 dL_law_391 dL_law_392 dL_law_393 ?_
  refine xk_V (ws := wY B cI v) (As := [.int (xs (i + 1))]) (rest := []) (q0 := 58) (c_X8_prefers (l := l) (D := D) (A := A) (cI := cI) (cZ := cZ) (cD := cD) hE1) mw_X8_prefers km_L_42 hx hb hml hown hG hI.comm (fun _ h => h) (wG_atE (by omega) eX_58) rfl rfl ⟨(Nat.le_of_ble_eq_true rfl), (Nat.le_of_ble_eq_true rfl)⟩ ⟨hcl.1, hcl.2⟩ rfl hl.1 rfl (Nat.le_of_ble_eq_true rfl) dL_law_394 (fun H locs hI => ?_)
  have hI := hI.comm
  refine lv_aload_n hx hb dL_law_397 rfl (lv_at hl 1 rfl) ?_
  refine xl_arg (k := 1) hx hb hX hbl hL hl hI (by decide) (by omega) dL_law_398 dL_law_399 dL_law_400 dL_law_401 dL_law_402 ?_
  refine xk_V (ws := wX A cI cZ cD u1) (As := [.int (xs (i + 1))]) (rest := [.int r]) (q0 := 0) (c_X9_prefers (l := l) (D := D) (A := B) (cI := cI) (cZ := cZ) (cD := cD) hE2) mw_X9_prefers km_L_46 hx hb hml hown hG hI (fun _ h => h) (wG_atE (by omega) eY_0) rfl rfl ⟨(Nat.le_of_ble_eq_true rfl), (Nat.le_of_ble_eq_true rfl)⟩ ⟨hcl.1, hcl.2⟩ rfl hl.1 rfl (Nat.le_of_ble_eq_true rfl) dL_law_403 (fun H locs hI => ?_)
  exact lv_icmp_eq (tgt := 830) hx hb dL_law_406 (by decide) (fun _ => kk H locs u1 v1 hR1 hI) (fun z => absurd rfl z)
set_option maxHeartbeats 1000000 in
theorem lc_adopts (hx : p.tables.exec = Jvm.exec) (hb : c.code = code) (hml : c.maxLocals = 4) (hown : s.vm.findClass RL = some m.cls) (hG : G D (tyL cI cZ cD) s) (hX : va_X b L xs s s.heap) (hbl : b < s.heap.size) (hL : L ≤ 3072) (hi : i + 6 ≤ L) (hl : lv_has ls 4 (lk4 i (A 58) (B 0) b)) (hR : Rel u v) (hI : xI D (nw s) s.heap (wX A cI cZ cD u ++ wY B cI v) H locs) (hcl : cells ≤ room_1.cells ∧ slots ≤ room_1.slots)
    (kk : ∀ (H : Heap) (locs : List Loc) (u v : Mem), Rel u v → xI D (nw s) s.heap (wX A cI cZ cD u ++ wY B cI v) H locs → W p l e room_1 s m args below meth c H locs cells slots Q (F0 m 830 ls [])) : W p l e room_1 s m args below meth c H locs cells slots Q (F0 m 411 ls []) := by
  obtain ⟨r, u1, v1, hE1, hE2, hR1⟩ := st_adopts hR 
  refine lv_aload_n hx hb dL_law_411 rfl (lv_at hl 2 rfl) ?_
  refine xk_V (ws := wY B cI v) (As := []) (rest := []) (q0 := 58) (c_X8_adopts (l := l) (D := D) (A := A) (cI := cI) (cZ := cZ) (cD := cD) hE1) mw_X8_adopts km_L_47 hx hb hml hown hG hI.comm (fun _ h => h) (wG_atE (by omega) eX_58) rfl rfl ⟨(Nat.le_of_ble_eq_true rfl), (Nat.le_of_ble_eq_true rfl)⟩ ⟨hcl.1, hcl.2⟩ rfl hl.1 rfl (Nat.le_of_ble_eq_true rfl) dL_law_412 (fun H locs hI => ?_)
  have hI := hI.comm
  refine lv_aload_n hx hb dL_law_415 rfl (lv_at hl 1 rfl) ?_
  refine xk_V (ws := wX A cI cZ cD u1) (As := []) (rest := [.int r]) (q0 := 0) (c_X9_adopts (l := l) (D := D) (A := B) (cI := cI) (cZ := cZ) (cD := cD) hE2) mw_X9_adopts km_L_50 hx hb hml hown hG hI (fun _ h => h) (wG_atE (by omega) eY_0) rfl rfl ⟨(Nat.le_of_ble_eq_true rfl), (Nat.le_of_ble_eq_true rfl)⟩ ⟨hcl.1, hcl.2⟩ rfl hl.1 rfl (Nat.le_of_ble_eq_true rfl) dL_law_416 (fun H locs hI => ?_)
  exact lv_icmp_eq (tgt := 830) hx hb dL_law_419 (by decide) (fun _ => kk H locs u1 v1 hR1 hI) (fun z => absurd rfl z)
set_option maxHeartbeats 1000000 in
theorem lc_has (hx : p.tables.exec = Jvm.exec) (hb : c.code = code) (hml : c.maxLocals = 4) (hown : s.vm.findClass RL = some m.cls) (hG : G D (tyL cI cZ cD) s) (hX : va_X b L xs s s.heap) (hbl : b < s.heap.size) (hL : L ≤ 3072) (hi : i + 6 ≤ L) (hl : lv_has ls 4 (lk4 i (A 58) (B 0) b)) (hR : Rel u v) (hI : xI D (nw s) s.heap (wX A cI cZ cD u ++ wY B cI v) H locs) (hcl : cells ≤ room_1.cells ∧ slots ≤ room_1.slots)
    (kk : ∀ (H : Heap) (locs : List Loc) (u v : Mem), Rel u v → xI D (nw s) s.heap (wX A cI cZ cD u ++ wY B cI v) H locs → W p l e room_1 s m args below meth c H locs cells slots Q (F0 m 830 ls [])) : W p l e room_1 s m args below meth c H locs cells slots Q (F0 m 424 ls []) := by
  obtain ⟨r, u1, v1, hE1, hE2, hR1⟩ := st_has hR (xs (i + 1)) (xs (i + 2))
  refine lv_aload_n hx hb dL_law_424 rfl (lv_at hl 2 rfl) ?_
  refine xl_arg (k := 1) hx hb hX hbl hL hl hI (by decide) (by omega) dL_law_425 dL_law_426 dL_law_427 dL_law_428 dL_law_429 ?_
  refine xl_arg (k := 2) hx hb hX hbl hL hl hI (by decide) (by omega) dL_law_430 dL_law_431 dL_law_432 dL_law_433 dL_law_434 ?_
  refine xk_V (ws := wY B cI v) (As := [.int (xs (i + 1)), .int (xs (i + 2))]) (rest := []) (q0 := 58) (c_X8_has (l := l) (D := D) (A := A) (cI := cI) (cZ := cZ) (cD := cD) hE1) mw_X8_has km_L_51 hx hb hml hown hG hI.comm (fun _ h => h) (wG_atE (by omega) eX_58) rfl rfl ⟨(Nat.le_of_ble_eq_true rfl), (Nat.le_of_ble_eq_true rfl)⟩ ⟨hcl.1, hcl.2⟩ rfl hl.1 rfl (Nat.le_of_ble_eq_true rfl) dL_law_435 (fun H locs hI => ?_)
  have hI := hI.comm
  refine lv_aload_n hx hb dL_law_438 rfl (lv_at hl 1 rfl) ?_
  refine xl_arg (k := 1) hx hb hX hbl hL hl hI (by decide) (by omega) dL_law_439 dL_law_440 dL_law_441 dL_law_442 dL_law_443 ?_
  refine xl_arg (k := 2) hx hb hX hbl hL hl hI (by decide) (by omega) dL_law_444 dL_law_445 dL_law_446 dL_law_447 dL_law_448 ?_
  refine xk_V (ws := wX A cI cZ cD u1) (As := [.int (xs (i + 1)), .int (xs (i + 2))]) (rest := [.int r]) (q0 := 0) (c_X9_has (l := l) (D := D) (A := B) (cI := cI) (cZ := cZ) (cD := cD) hE2) mw_X9_has km_L_54 hx hb hml hown hG hI (fun _ h => h) (wG_atE (by omega) eY_0) rfl rfl ⟨(Nat.le_of_ble_eq_true rfl), (Nat.le_of_ble_eq_true rfl)⟩ ⟨hcl.1, hcl.2⟩ rfl hl.1 rfl (Nat.le_of_ble_eq_true rfl) dL_law_449 (fun H locs hI => ?_)
  exact lv_icmp_eq (tgt := 830) hx hb dL_law_452 (by decide) (fun _ => kk H locs u1 v1 hR1 hI) (fun z => absurd rfl z)
set_option maxHeartbeats 1000000 in
theorem lc_of (hx : p.tables.exec = Jvm.exec) (hb : c.code = code) (hml : c.maxLocals = 4) (hown : s.vm.findClass RL = some m.cls) (hG : G D (tyL cI cZ cD) s) (hX : va_X b L xs s s.heap) (hbl : b < s.heap.size) (hL : L ≤ 3072) (hi : i + 6 ≤ L) (hl : lv_has ls 4 (lk4 i (A 58) (B 0) b)) (hR : Rel u v) (hI : xI D (nw s) s.heap (wX A cI cZ cD u ++ wY B cI v) H locs) (hcl : cells ≤ room_1.cells ∧ slots ≤ room_1.slots)
    (kk : ∀ (H : Heap) (locs : List Loc) (u v : Mem), Rel u v → xI D (nw s) s.heap (wX A cI cZ cD u ++ wY B cI v) H locs → W p l e room_1 s m args below meth c H locs cells slots Q (F0 m 830 ls [])) : W p l e room_1 s m args below meth c H locs cells slots Q (F0 m 457 ls []) := by
  obtain ⟨r, u1, v1, hE1, hE2, hR1⟩ := st_of hR (xs (i + 1)) (xs (i + 2)) (xs (i + 3))
  refine lv_aload_n hx hb dL_law_457 rfl (lv_at hl 2 rfl) ?_
  refine xl_arg (k := 1) hx hb hX hbl hL hl hI (by decide) (by omega) dL_law_458 dL_law_459 dL_law_460 dL_law_461 dL_law_462 ?_
  refine xl_arg (k := 2) hx hb hX hbl hL hl hI (by decide) (by omega) dL_law_463 dL_law_464 dL_law_465 dL_law_466 dL_law_467 ?_
  refine xl_arg (k := 3) hx hb hX hbl hL hl hI (by decide) (by omega) dL_law_468 dL_law_469 dL_law_470 dL_law_471 dL_law_472 ?_
  refine xk_V (ws := wY B cI v) (As := [.int (xs (i + 1)), .int (xs (i + 2)), .int (xs (i + 3))]) (rest := []) (q0 := 58) (c_X8_of (l := l) (D := D) (A := A) (cI := cI) (cZ := cZ) (cD := cD) hE1) mw_X8_of km_L_55 hx hb hml hown hG hI.comm (fun _ h => h) (wG_atE (by omega) eX_58) rfl rfl ⟨(Nat.le_of_ble_eq_true rfl), (Nat.le_of_ble_eq_true rfl)⟩ ⟨hcl.1, hcl.2⟩ rfl hl.1 rfl (Nat.le_of_ble_eq_true rfl) dL_law_473 (fun H locs hI => ?_)
  have hI := hI.comm
  refine lv_aload_n hx hb dL_law_476 rfl (lv_at hl 1 rfl) ?_
  refine xl_arg (k := 1) hx hb hX hbl hL hl hI (by decide) (by omega) dL_law_477 dL_law_478 dL_law_479 dL_law_480 dL_law_481 ?_
  refine xl_arg (k := 2) hx hb hX hbl hL hl hI (by decide) (by omega) dL_law_482 dL_law_483 dL_law_484 dL_law_485 dL_law_486 ?_
  refine xl_arg (k := 3) hx hb hX hbl hL hl hI (by decide) (by omega) dL_law_487 dL_law_488 dL_law_489 dL_law_490 dL_law_491 ?_
  refine xk_V (ws := wX A cI cZ cD u1) (As := [.int (xs (i + 1)), .int (xs (i + 2)), .int (xs (i + 3))]) (rest := [.int r]) (q0 := 0) (c_X9_of (l := l) (D := D) (A := B) (cI := cI) (cZ := cZ) (cD := cD) hE2) mw_X9_of km_L_58 hx hb hml hown hG hI (fun _ h => h) (wG_atE (by omega) eY_0) rfl rfl ⟨(Nat.le_of_ble_eq_true rfl), (Nat.le_of_ble_eq_true rfl)⟩ ⟨hcl.1, hcl.2⟩ rfl hl.1 rfl (Nat.le_of_ble_eq_true rfl) dL_law_492 (fun H locs hI => ?_)
  exact lv_icmp_eq (tgt := 830) hx hb dL_law_495 (by decide) (fun _ => kk H locs u1 v1 hR1 hI) (fun z => absurd rfl z)
set_option maxHeartbeats 1000000 in
theorem lc_walk (hx : p.tables.exec = Jvm.exec) (hb : c.code = code) (hml : c.maxLocals = 4) (hown : s.vm.findClass RL = some m.cls) (hG : G D (tyL cI cZ cD) s) (hX : va_X b L xs s s.heap) (hbl : b < s.heap.size) (hL : L ≤ 3072) (hi : i + 6 ≤ L) (hl : lv_has ls 4 (lk4 i (A 58) (B 0) b)) (hR : Rel u v) (hI : xI D (nw s) s.heap (wX A cI cZ cD u ++ wY B cI v) H locs) (hcl : cells ≤ room_1.cells ∧ slots ≤ room_1.slots)
    (kk : ∀ (H : Heap) (locs : List Loc) (u v : Mem), Rel u v → xI D (nw s) s.heap (wX A cI cZ cD u ++ wY B cI v) H locs → W p l e room_1 s m args below meth c H locs cells slots Q (F0 m 830 ls [])) : W p l e room_1 s m args below meth c H locs cells slots Q (F0 m 500 ls []) := by
  obtain ⟨r, u1, v1, hE1, hE2, hR1⟩ := st_walk hR (xs (i + 1)) (xs (i + 2))
  refine lv_aload_n hx hb dL_law_500 rfl (lv_at hl 2 rfl) ?_
  refine xl_arg (k := 1) hx hb hX hbl hL hl hI (by decide) (by omega) dL_law_501 dL_law_502 dL_law_503 dL_law_504 dL_law_505 ?_
  refine xl_arg (k := 2) hx hb hX hbl hL hl hI (by decide) (by omega) dL_law_506 dL_law_507 dL_law_508 dL_law_509 dL_law_510 ?_
  refine xk_V (ws := wY B cI v) (As := [.int (xs (i + 1)), .int (xs (i + 2))]) (rest := []) (q0 := 58) (c_X8_walk (l := l) (D := D) (A := A) (cI := cI) (cZ := cZ) (cD := cD) hE1) mw_X8_walk km_L_59 hx hb hml hown hG hI.comm (fun _ h => h) (wG_atE (by omega) eX_58) rfl rfl ⟨(Nat.le_of_ble_eq_true rfl), (Nat.le_of_ble_eq_true rfl)⟩ ⟨hcl.1, hcl.2⟩ rfl hl.1 rfl (Nat.le_of_ble_eq_true rfl) dL_law_511 (fun H locs hI => ?_)
  have hI := hI.comm
  refine lv_aload_n hx hb dL_law_514 rfl (lv_at hl 1 rfl) ?_
  refine xl_arg (k := 1) hx hb hX hbl hL hl hI (by decide) (by omega) dL_law_515 dL_law_516 dL_law_517 dL_law_518 dL_law_519 ?_
  refine xl_arg (k := 2) hx hb hX hbl hL hl hI (by decide) (by omega) dL_law_520 dL_law_521 dL_law_522 dL_law_523 dL_law_524 ?_
  refine xk_V (ws := wX A cI cZ cD u1) (As := [.int (xs (i + 1)), .int (xs (i + 2))]) (rest := [.int r]) (q0 := 0) (c_X9_walk (l := l) (D := D) (A := B) (cI := cI) (cZ := cZ) (cD := cD) hE2) mw_X9_walk km_L_62 hx hb hml hown hG hI (fun _ h => h) (wG_atE (by omega) eY_0) rfl rfl ⟨(Nat.le_of_ble_eq_true rfl), (Nat.le_of_ble_eq_true rfl)⟩ ⟨hcl.1, hcl.2⟩ rfl hl.1 rfl (Nat.le_of_ble_eq_true rfl) dL_law_525 (fun H locs hI => ?_)
  exact lv_icmp_eq (tgt := 830) hx hb dL_law_528 (by decide) (fun _ => kk H locs u1 v1 hR1 hI) (fun z => absurd rfl z)
set_option maxHeartbeats 1000000 in
theorem lc_size (hx : p.tables.exec = Jvm.exec) (hb : c.code = code) (hml : c.maxLocals = 4) (hown : s.vm.findClass RL = some m.cls) (hG : G D (tyL cI cZ cD) s) (hX : va_X b L xs s s.heap) (hbl : b < s.heap.size) (hL : L ≤ 3072) (hi : i + 6 ≤ L) (hl : lv_has ls 4 (lk4 i (A 58) (B 0) b)) (hR : Rel u v) (hI : xI D (nw s) s.heap (wX A cI cZ cD u ++ wY B cI v) H locs) (hcl : cells ≤ room_1.cells ∧ slots ≤ room_1.slots)
    (kk : ∀ (H : Heap) (locs : List Loc) (u v : Mem), Rel u v → xI D (nw s) s.heap (wX A cI cZ cD u ++ wY B cI v) H locs → W p l e room_1 s m args below meth c H locs cells slots Q (F0 m 830 ls [])) : W p l e room_1 s m args below meth c H locs cells slots Q (F0 m 533 ls []) := by
  obtain ⟨r, u1, v1, hE1, hE2, hR1⟩ := st_size hR (xs (i + 1)) (xs (i + 2))
  refine lv_aload_n hx hb dL_law_533 rfl (lv_at hl 2 rfl) ?_
  refine xl_arg (k := 1) hx hb hX hbl hL hl hI (by decide) (by omega) dL_law_534 dL_law_535 dL_law_536 dL_law_537 dL_law_538 ?_
  refine xl_arg (k := 2) hx hb hX hbl hL hl hI (by decide) (by omega) dL_law_539 dL_law_540 dL_law_541 dL_law_542 dL_law_543 ?_
  refine xk_V (ws := wY B cI v) (As := [.int (xs (i + 1)), .int (xs (i + 2))]) (rest := []) (q0 := 58) (c_X8_size (l := l) (D := D) (A := A) (cI := cI) (cZ := cZ) (cD := cD) hE1) mw_X8_size km_L_63 hx hb hml hown hG hI.comm (fun _ h => h) (wG_atE (by omega) eX_58) rfl rfl ⟨(Nat.le_of_ble_eq_true rfl), (Nat.le_of_ble_eq_true rfl)⟩ ⟨hcl.1, hcl.2⟩ rfl hl.1 rfl (Nat.le_of_ble_eq_true rfl) dL_law_544 (fun H locs hI => ?_)
  have hI := hI.comm
  refine lv_aload_n hx hb dL_law_547 rfl (lv_at hl 1 rfl) ?_
  refine xl_arg (k := 1) hx hb hX hbl hL hl hI (by decide) (by omega) dL_law_548 dL_law_549 dL_law_550 dL_law_551 dL_law_552 ?_
  refine xl_arg (k := 2) hx hb hX hbl hL hl hI (by decide) (by omega) dL_law_553 dL_law_554 dL_law_555 dL_law_556 dL_law_557 ?_
  refine xk_V (ws := wX A cI cZ cD u1) (As := [.int (xs (i + 1)), .int (xs (i + 2))]) (rest := [.int r]) (q0 := 0) (c_X9_size (l := l) (D := D) (A := B) (cI := cI) (cZ := cZ) (cD := cD) hE2) mw_X9_size km_L_66 hx hb hml hown hG hI (fun _ h => h) (wG_atE (by omega) eY_0) rfl rfl ⟨(Nat.le_of_ble_eq_true rfl), (Nat.le_of_ble_eq_true rfl)⟩ ⟨hcl.1, hcl.2⟩ rfl hl.1 rfl (Nat.le_of_ble_eq_true rfl) dL_law_558 (fun H locs hI => ?_)
  exact lv_icmp_eq (tgt := 830) hx hb dL_law_561 (by decide) (fun _ => kk H locs u1 v1 hR1 hI) (fun z => absurd rfl z)
set_option maxHeartbeats 1000000 in
theorem lc_alike (hx : p.tables.exec = Jvm.exec) (hb : c.code = code) (hml : c.maxLocals = 4) (hown : s.vm.findClass RL = some m.cls) (hG : G D (tyL cI cZ cD) s) (hX : va_X b L xs s s.heap) (hbl : b < s.heap.size) (hL : L ≤ 3072) (hi : i + 6 ≤ L) (hl : lv_has ls 4 (lk4 i (A 58) (B 0) b)) (hR : Rel u v) (hI : xI D (nw s) s.heap (wX A cI cZ cD u ++ wY B cI v) H locs) (hcl : cells ≤ room_1.cells ∧ slots ≤ room_1.slots)
    (kk : ∀ (H : Heap) (locs : List Loc) (u v : Mem), Rel u v → xI D (nw s) s.heap (wX A cI cZ cD u ++ wY B cI v) H locs → W p l e room_1 s m args below meth c H locs cells slots Q (F0 m 830 ls [])) : W p l e room_1 s m args below meth c H locs cells slots Q (F0 m 566 ls []) := by
  obtain ⟨r, u1, v1, hE1, hE2, hR1⟩ := st_alike hR (xs (i + 1)) (xs (i + 2))
  refine lv_aload_n hx hb dL_law_566 rfl (lv_at hl 2 rfl) ?_
  refine xl_arg (k := 1) hx hb hX hbl hL hl hI (by decide) (by omega) dL_law_567 dL_law_568 dL_law_569 dL_law_570 dL_law_571 ?_
  refine xl_arg (k := 2) hx hb hX hbl hL hl hI (by decide) (by omega) dL_law_572 dL_law_573 dL_law_574 dL_law_575 dL_law_576 ?_
  refine xk_V (ws := wY B cI v) (As := [.int (xs (i + 1)), .int (xs (i + 2))]) (rest := []) (q0 := 58) (c_X8_alike (l := l) (D := D) (A := A) (cI := cI) (cZ := cZ) (cD := cD) hE1) mw_X8_alike km_L_67 hx hb hml hown hG hI.comm (fun _ h => h) (wG_atE (by omega) eX_58) rfl rfl ⟨(Nat.le_of_ble_eq_true rfl), (Nat.le_of_ble_eq_true rfl)⟩ ⟨hcl.1, hcl.2⟩ rfl hl.1 rfl (Nat.le_of_ble_eq_true rfl) dL_law_577 (fun H locs hI => ?_)
  have hI := hI.comm
  refine lv_aload_n hx hb dL_law_580 rfl (lv_at hl 1 rfl) ?_
  refine xl_arg (k := 1) hx hb hX hbl hL hl hI (by decide) (by omega) dL_law_581 dL_law_582 dL_law_583 dL_law_584 dL_law_585 ?_
  refine xl_arg (k := 2) hx hb hX hbl hL hl hI (by decide) (by omega) dL_law_586 dL_law_587 dL_law_588 dL_law_589 dL_law_590 ?_
  refine xk_V (ws := wX A cI cZ cD u1) (As := [.int (xs (i + 1)), .int (xs (i + 2))]) (rest := [.int r]) (q0 := 0) (c_X9_alike (l := l) (D := D) (A := B) (cI := cI) (cZ := cZ) (cD := cD) hE2) mw_X9_alike km_L_70 hx hb hml hown hG hI (fun _ h => h) (wG_atE (by omega) eY_0) rfl rfl ⟨(Nat.le_of_ble_eq_true rfl), (Nat.le_of_ble_eq_true rfl)⟩ ⟨hcl.1, hcl.2⟩ rfl hl.1 rfl (Nat.le_of_ble_eq_true rfl) dL_law_591 (fun H locs hI => ?_)
  exact lv_icmp_eq (tgt := 830) hx hb dL_law_594 (by decide) (fun _ => kk H locs u1 v1 hR1 hI) (fun z => absurd rfl z)
set_option maxHeartbeats 1000000 in
theorem lc_conflicts (hx : p.tables.exec = Jvm.exec) (hb : c.code = code) (hml : c.maxLocals = 4) (hown : s.vm.findClass RL = some m.cls) (hG : G D (tyL cI cZ cD) s) (hX : va_X b L xs s s.heap) (hbl : b < s.heap.size) (hL : L ≤ 3072) (hi : i + 6 ≤ L) (hl : lv_has ls 4 (lk4 i (A 58) (B 0) b)) (hR : Rel u v) (hI : xI D (nw s) s.heap (wX A cI cZ cD u ++ wY B cI v) H locs) (hcl : cells ≤ room_1.cells ∧ slots ≤ room_1.slots)
    (kk : ∀ (H : Heap) (locs : List Loc) (u v : Mem), Rel u v → xI D (nw s) s.heap (wX A cI cZ cD u ++ wY B cI v) H locs → W p l e room_1 s m args below meth c H locs cells slots Q (F0 m 830 ls [])) : W p l e room_1 s m args below meth c H locs cells slots Q (F0 m 599 ls []) := by
  obtain ⟨r, u1, v1, hE1, hE2, hR1⟩ := st_conflicts hR (xs (i + 1)) (xs (i + 2))
  refine lv_aload_n hx hb dL_law_599 rfl (lv_at hl 2 rfl) ?_
  refine xl_arg (k := 1) hx hb hX hbl hL hl hI (by decide) (by omega) dL_law_600 dL_law_601 dL_law_602 dL_law_603 dL_law_604 ?_
  refine xl_arg (k := 2) hx hb hX hbl hL hl hI (by decide) (by omega) dL_law_605 dL_law_606 dL_law_607 dL_law_608 dL_law_609 ?_
  refine xk_V (ws := wY B cI v) (As := [.int (xs (i + 1)), .int (xs (i + 2))]) (rest := []) (q0 := 58) (c_X8_conflicts (l := l) (D := D) (A := A) (cI := cI) (cZ := cZ) (cD := cD) hE1) mw_X8_conflicts km_L_71 hx hb hml hown hG hI.comm (fun _ h => h) (wG_atE (by omega) eX_58) rfl rfl ⟨(Nat.le_of_ble_eq_true rfl), (Nat.le_of_ble_eq_true rfl)⟩ ⟨hcl.1, hcl.2⟩ rfl hl.1 rfl (Nat.le_of_ble_eq_true rfl) dL_law_610 (fun H locs hI => ?_)
  have hI := hI.comm
  refine lv_aload_n hx hb dL_law_613 rfl (lv_at hl 1 rfl) ?_
  refine xl_arg (k := 1) hx hb hX hbl hL hl hI (by decide) (by omega) dL_law_614 dL_law_615 dL_law_616 dL_law_617 dL_law_618 ?_
  refine xl_arg (k := 2) hx hb hX hbl hL hl hI (by decide) (by omega) dL_law_619 dL_law_620 dL_law_621 dL_law_622 dL_law_623 ?_
  refine xk_V (ws := wX A cI cZ cD u1) (As := [.int (xs (i + 1)), .int (xs (i + 2))]) (rest := [.int r]) (q0 := 0) (c_X9_conflicts (l := l) (D := D) (A := B) (cI := cI) (cZ := cZ) (cD := cD) hE2) mw_X9_conflicts km_L_74 hx hb hml hown hG hI (fun _ h => h) (wG_atE (by omega) eY_0) rfl rfl ⟨(Nat.le_of_ble_eq_true rfl), (Nat.le_of_ble_eq_true rfl)⟩ ⟨hcl.1, hcl.2⟩ rfl hl.1 rfl (Nat.le_of_ble_eq_true rfl) dL_law_624 (fun H locs hI => ?_)
  exact lv_icmp_eq (tgt := 830) hx hb dL_law_627 (by decide) (fun _ => kk H locs u1 v1 hR1 hI) (fun z => absurd rfl z)
set_option maxHeartbeats 1000000 in
theorem lc_script (hx : p.tables.exec = Jvm.exec) (hb : c.code = code) (hml : c.maxLocals = 4) (hown : s.vm.findClass RL = some m.cls) (hG : G D (tyL cI cZ cD) s) (hX : va_X b L xs s s.heap) (hbl : b < s.heap.size) (hL : L ≤ 3072) (hi : i + 6 ≤ L) (hl : lv_has ls 4 (lk4 i (A 58) (B 0) b)) (hR : Rel u v) (hI : xI D (nw s) s.heap (wX A cI cZ cD u ++ wY B cI v) H locs) (hcl : cells ≤ room_1.cells ∧ slots ≤ room_1.slots)
    (kk : ∀ (H : Heap) (locs : List Loc) (u v : Mem), Rel u v → xI D (nw s) s.heap (wX A cI cZ cD u ++ wY B cI v) H locs → W p l e room_1 s m args below meth c H locs cells slots Q (F0 m 830 ls [])) : W p l e room_1 s m args below meth c H locs cells slots Q (F0 m 632 ls []) := by
  obtain ⟨r, u1, v1, hE1, hE2, hR1⟩ := st_script hR (xs (i + 1)) (xs (i + 2)) (xs (i + 3))
  refine lv_aload_n hx hb dL_law_632 rfl (lv_at hl 2 rfl) ?_
  refine xl_arg (k := 1) hx hb hX hbl hL hl hI (by decide) (by omega) dL_law_633 dL_law_634 dL_law_635 dL_law_636 dL_law_637 ?_
  refine xl_arg (k := 2) hx hb hX hbl hL hl hI (by decide) (by omega) dL_law_638 dL_law_639 dL_law_640 dL_law_641 dL_law_642 ?_
  refine xl_arg (k := 3) hx hb hX hbl hL hl hI (by decide) (by omega) dL_law_643 dL_law_644 dL_law_645 dL_law_646 dL_law_647 ?_
  refine xk_V (ws := wY B cI v) (As := [.int (xs (i + 1)), .int (xs (i + 2)), .int (xs (i + 3))]) (rest := []) (q0 := 58) (c_X8_script (l := l) (D := D) (A := A) (cI := cI) (cZ := cZ) (cD := cD) hE1) mw_X8_script km_L_75 hx hb hml hown hG hI.comm (fun _ h => h) (wG_atE (by omega) eX_58) rfl rfl ⟨(Nat.le_of_ble_eq_true rfl), (Nat.le_of_ble_eq_true rfl)⟩ ⟨hcl.1, hcl.2⟩ rfl hl.1 rfl (Nat.le_of_ble_eq_true rfl) dL_law_648 (fun H locs hI => ?_)
  have hI := hI.comm
  refine lv_aload_n hx hb dL_law_651 rfl (lv_at hl 1 rfl) ?_
  refine xl_arg (k := 1) hx hb hX hbl hL hl hI (by decide) (by omega) dL_law_652 dL_law_653 dL_law_654 dL_law_655 dL_law_656 ?_
  refine xl_arg (k := 2) hx hb hX hbl hL hl hI (by decide) (by omega) dL_law_657 dL_law_658 dL_law_659 dL_law_660 dL_law_661 ?_
  refine xl_arg (k := 3) hx hb hX hbl hL hl hI (by decide) (by omega) dL_law_662 dL_law_663 dL_law_664 dL_law_665 dL_law_666 ?_
  refine xk_V (ws := wX A cI cZ cD u1) (As := [.int (xs (i + 1)), .int (xs (i + 2)), .int (xs (i + 3))]) (rest := [.int r]) (q0 := 0) (c_X9_script (l := l) (D := D) (A := B) (cI := cI) (cZ := cZ) (cD := cD) hE2) mw_X9_script km_L_78 hx hb hml hown hG hI (fun _ h => h) (wG_atE (by omega) eY_0) rfl rfl ⟨(Nat.le_of_ble_eq_true rfl), (Nat.le_of_ble_eq_true rfl)⟩ ⟨hcl.1, hcl.2⟩ rfl hl.1 rfl (Nat.le_of_ble_eq_true rfl) dL_law_667 (fun H locs hI => ?_)
  exact lv_icmp_eq (tgt := 830) hx hb dL_law_670 (by decide) (fun _ => kk H locs u1 v1 hR1 hI) (fun z => absurd rfl z)
set_option maxHeartbeats 1000000 in
theorem lc_matches (hx : p.tables.exec = Jvm.exec) (hb : c.code = code) (hml : c.maxLocals = 4) (hown : s.vm.findClass RL = some m.cls) (hG : G D (tyL cI cZ cD) s) (hX : va_X b L xs s s.heap) (hbl : b < s.heap.size) (hL : L ≤ 3072) (hi : i + 6 ≤ L) (hl : lv_has ls 4 (lk4 i (A 58) (B 0) b)) (hR : Rel u v) (hI : xI D (nw s) s.heap (wX A cI cZ cD u ++ wY B cI v) H locs) (hcl : cells ≤ room_1.cells ∧ slots ≤ room_1.slots)
    (kk : ∀ (H : Heap) (locs : List Loc) (u v : Mem), Rel u v → xI D (nw s) s.heap (wX A cI cZ cD u ++ wY B cI v) H locs → W p l e room_1 s m args below meth c H locs cells slots Q (F0 m 830 ls [])) : W p l e room_1 s m args below meth c H locs cells slots Q (F0 m 675 ls []) := by
  obtain ⟨r, u1, v1, hE1, hE2, hR1⟩ := st_matches hR (xs (i + 1)) (xs (i + 2))
  refine lv_aload_n hx hb dL_law_675 rfl (lv_at hl 2 rfl) ?_
  refine xl_arg (k := 1) hx hb hX hbl hL hl hI (by decide) (by omega) dL_law_676 dL_law_677 dL_law_678 dL_law_679 dL_law_680 ?_
  refine xl_arg (k := 2) hx hb hX hbl hL hl hI (by decide) (by omega) dL_law_681 dL_law_682 dL_law_683 dL_law_684 dL_law_685 ?_
  refine xk_V (ws := wY B cI v) (As := [.int (xs (i + 1)), .int (xs (i + 2))]) (rest := []) (q0 := 58) (c_X8_matches (l := l) (D := D) (A := A) (cI := cI) (cZ := cZ) (cD := cD) hE1) mw_X8_matches km_L_79 hx hb hml hown hG hI.comm (fun _ h => h) (wG_atE (by omega) eX_58) rfl rfl ⟨(Nat.le_of_ble_eq_true rfl), (Nat.le_of_ble_eq_true rfl)⟩ ⟨hcl.1, hcl.2⟩ rfl hl.1 rfl (Nat.le_of_ble_eq_true rfl) dL_law_686 (fun H locs hI => ?_)
  have hI := hI.comm
  refine lv_aload_n hx hb dL_law_689 rfl (lv_at hl 1 rfl) ?_
  refine xl_arg (k := 1) hx hb hX hbl hL hl hI (by decide) (by omega) dL_law_690 dL_law_691 dL_law_692 dL_law_693 dL_law_694 ?_
  refine xl_arg (k := 2) hx hb hX hbl hL hl hI (by decide) (by omega) dL_law_695 dL_law_696 dL_law_697 dL_law_698 dL_law_699 ?_
  refine xk_V (ws := wX A cI cZ cD u1) (As := [.int (xs (i + 1)), .int (xs (i + 2))]) (rest := [.int r]) (q0 := 0) (c_X9_matches (l := l) (D := D) (A := B) (cI := cI) (cZ := cZ) (cD := cD) hE2) mw_X9_matches km_L_82 hx hb hml hown hG hI (fun _ h => h) (wG_atE (by omega) eY_0) rfl rfl ⟨(Nat.le_of_ble_eq_true rfl), (Nat.le_of_ble_eq_true rfl)⟩ ⟨hcl.1, hcl.2⟩ rfl hl.1 rfl (Nat.le_of_ble_eq_true rfl) dL_law_700 (fun H locs hI => ?_)
  exact lv_icmp_eq (tgt := 830) hx hb dL_law_703 (by decide) (fun _ => kk H locs u1 v1 hR1 hI) (fun z => absurd rfl z)
set_option maxHeartbeats 1000000 in
theorem lc_told (hx : p.tables.exec = Jvm.exec) (hb : c.code = code) (hml : c.maxLocals = 4) (hown : s.vm.findClass RL = some m.cls) (hG : G D (tyL cI cZ cD) s) (hX : va_X b L xs s s.heap) (hbl : b < s.heap.size) (hL : L ≤ 3072) (hi : i + 6 ≤ L) (hl : lv_has ls 4 (lk4 i (A 58) (B 0) b)) (hR : Rel u v) (hI : xI D (nw s) s.heap (wX A cI cZ cD u ++ wY B cI v) H locs) (hcl : cells ≤ room_1.cells ∧ slots ≤ room_1.slots)
    (kk : ∀ (H : Heap) (locs : List Loc) (u v : Mem), Rel u v → xI D (nw s) s.heap (wX A cI cZ cD u ++ wY B cI v) H locs → W p l e room_1 s m args below meth c H locs cells slots Q (F0 m 830 ls [])) : W p l e room_1 s m args below meth c H locs cells slots Q (F0 m 708 ls []) := by
  obtain ⟨r, u1, v1, hE1, hE2, hR1⟩ := st_told hR (xs (i + 1))
  refine lv_aload_n hx hb dL_law_708 rfl (lv_at hl 2 rfl) ?_
  refine xl_arg (k := 1) hx hb hX hbl hL hl hI (by decide) (by omega) dL_law_709 dL_law_710 dL_law_711 dL_law_712 dL_law_713 ?_
  refine xk_V (ws := wY B cI v) (As := [.int (xs (i + 1))]) (rest := []) (q0 := 58) (c_X8_told (l := l) (D := D) (A := A) (cI := cI) (cZ := cZ) (cD := cD) hE1) mw_X8_told km_L_83 hx hb hml hown hG hI.comm (fun _ h => h) (wG_atE (by omega) eX_58) rfl rfl ⟨(Nat.le_of_ble_eq_true rfl), (Nat.le_of_ble_eq_true rfl)⟩ ⟨hcl.1, hcl.2⟩ rfl hl.1 rfl (Nat.le_of_ble_eq_true rfl) dL_law_714 (fun H locs hI => ?_)
  have hI := hI.comm
  refine lv_aload_n hx hb dL_law_717 rfl (lv_at hl 1 rfl) ?_
  refine xl_arg (k := 1) hx hb hX hbl hL hl hI (by decide) (by omega) dL_law_718 dL_law_719 dL_law_720 dL_law_721 dL_law_722 ?_
  refine xk_V (ws := wX A cI cZ cD u1) (As := [.int (xs (i + 1))]) (rest := [.int r]) (q0 := 0) (c_X9_told (l := l) (D := D) (A := B) (cI := cI) (cZ := cZ) (cD := cD) hE2) mw_X9_told km_L_86 hx hb hml hown hG hI (fun _ h => h) (wG_atE (by omega) eY_0) rfl rfl ⟨(Nat.le_of_ble_eq_true rfl), (Nat.le_of_ble_eq_true rfl)⟩ ⟨hcl.1, hcl.2⟩ rfl hl.1 rfl (Nat.le_of_ble_eq_true rfl) dL_law_723 (fun H locs hI => ?_)
  exact lv_icmp_eq (tgt := 830) hx hb dL_law_726 (by decide) (fun _ => kk H locs u1 v1 hR1 hI) (fun z => absurd rfl z)
set_option maxHeartbeats 1000000 in
theorem lc_type (hx : p.tables.exec = Jvm.exec) (hb : c.code = code) (hml : c.maxLocals = 4) (hown : s.vm.findClass RL = some m.cls) (hG : G D (tyL cI cZ cD) s) (hX : va_X b L xs s s.heap) (hbl : b < s.heap.size) (hL : L ≤ 3072) (hi : i + 6 ≤ L) (hl : lv_has ls 4 (lk4 i (A 58) (B 0) b)) (hR : Rel u v) (hI : xI D (nw s) s.heap (wX A cI cZ cD u ++ wY B cI v) H locs) (hcl : cells ≤ room_1.cells ∧ slots ≤ room_1.slots)
    (kk : ∀ (H : Heap) (locs : List Loc) (u v : Mem), Rel u v → xI D (nw s) s.heap (wX A cI cZ cD u ++ wY B cI v) H locs → W p l e room_1 s m args below meth c H locs cells slots Q (F0 m 830 ls [])) : W p l e room_1 s m args below meth c H locs cells slots Q (F0 m 731 ls []) := by
  obtain ⟨r, u1, v1, hE1, hE2, hR1⟩ := st_type hR (xs (i + 1))
  refine lv_aload_n hx hb dL_law_731 rfl (lv_at hl 2 rfl) ?_
  refine xl_arg (k := 1) hx hb hX hbl hL hl hI (by decide) (by omega) dL_law_732 dL_law_733 dL_law_734 dL_law_735 dL_law_736 ?_
  refine xk_V (ws := wY B cI v) (As := [.int (xs (i + 1))]) (rest := []) (q0 := 58) (c_X8_type (l := l) (D := D) (A := A) (cI := cI) (cZ := cZ) (cD := cD) hE1) mw_X8_type km_L_87 hx hb hml hown hG hI.comm (fun _ h => h) (wG_atE (by omega) eX_58) rfl rfl ⟨(Nat.le_of_ble_eq_true rfl), (Nat.le_of_ble_eq_true rfl)⟩ ⟨hcl.1, hcl.2⟩ rfl hl.1 rfl (Nat.le_of_ble_eq_true rfl) dL_law_737 (fun H locs hI => ?_)
  have hI := hI.comm
  refine lv_aload_n hx hb dL_law_740 rfl (lv_at hl 1 rfl) ?_
  refine xl_arg (k := 1) hx hb hX hbl hL hl hI (by decide) (by omega) dL_law_741 dL_law_742 dL_law_743 dL_law_744 dL_law_745 ?_
  refine xk_V (ws := wX A cI cZ cD u1) (As := [.int (xs (i + 1))]) (rest := [.int r]) (q0 := 0) (c_X9_type (l := l) (D := D) (A := B) (cI := cI) (cZ := cZ) (cD := cD) hE2) mw_X9_type km_L_90 hx hb hml hown hG hI (fun _ h => h) (wG_atE (by omega) eY_0) rfl rfl ⟨(Nat.le_of_ble_eq_true rfl), (Nat.le_of_ble_eq_true rfl)⟩ ⟨hcl.1, hcl.2⟩ rfl hl.1 rfl (Nat.le_of_ble_eq_true rfl) dL_law_746 (fun H locs hI => ?_)
  exact lv_icmp_eq (tgt := 830) hx hb dL_law_749 (by decide) (fun _ => kk H locs u1 v1 hR1 hI) (fun z => absurd rfl z)
set_option maxHeartbeats 1000000 in
theorem lc_clear (hx : p.tables.exec = Jvm.exec) (hb : c.code = code) (hml : c.maxLocals = 4) (hown : s.vm.findClass RL = some m.cls) (hG : G D (tyL cI cZ cD) s) (hX : va_X b L xs s s.heap) (hbl : b < s.heap.size) (hL : L ≤ 3072) (hi : i + 6 ≤ L) (hl : lv_has ls 4 (lk4 i (A 58) (B 0) b)) (hR : Rel u v) (hI : xI D (nw s) s.heap (wX A cI cZ cD u ++ wY B cI v) H locs) (hcl : cells ≤ room_1.cells ∧ slots ≤ room_1.slots)
    (kk : ∀ (H : Heap) (locs : List Loc) (u v : Mem), Rel u v → xI D (nw s) s.heap (wX A cI cZ cD u ++ wY B cI v) H locs → W p l e room_1 s m args below meth c H locs cells slots Q (F0 m 830 ls [])) : W p l e room_1 s m args below meth c H locs cells slots Q (F0 m 754 ls []) := by
  obtain ⟨r, u1, v1, hE1, hE2, hR1⟩ := st_clear hR 
  refine lv_aload_n hx hb dL_law_754 rfl (lv_at hl 2 rfl) ?_
  refine xk_V (ws := wY B cI v) (As := []) (rest := []) (q0 := 58) (c_X8_clear (l := l) (D := D) (A := A) (cI := cI) (cZ := cZ) (cD := cD) hE1) mw_X8_clear km_L_91 hx hb hml hown hG hI.comm (fun _ h => h) (wG_atE (by omega) eX_58) rfl rfl ⟨(Nat.le_of_ble_eq_true rfl), (Nat.le_of_ble_eq_true rfl)⟩ ⟨hcl.1, hcl.2⟩ rfl hl.1 rfl (Nat.le_of_ble_eq_true rfl) dL_law_755 (fun H locs hI => ?_)
  have hI := hI.comm
  refine lv_aload_n hx hb dL_law_758 rfl (lv_at hl 1 rfl) ?_
  refine xk_V (ws := wX A cI cZ cD u1) (As := []) (rest := [.int r]) (q0 := 0) (c_X9_clear (l := l) (D := D) (A := B) (cI := cI) (cZ := cZ) (cD := cD) hE2) mw_X9_clear km_L_94 hx hb hml hown hG hI (fun _ h => h) (wG_atE (by omega) eY_0) rfl rfl ⟨(Nat.le_of_ble_eq_true rfl), (Nat.le_of_ble_eq_true rfl)⟩ ⟨hcl.1, hcl.2⟩ rfl hl.1 rfl (Nat.le_of_ble_eq_true rfl) dL_law_759 (fun H locs hI => ?_)
  exact lv_icmp_eq (tgt := 830) hx hb dL_law_762 (by decide) (fun _ => kk H locs u1 v1 hR1 hI) (fun z => absurd rfl z)
set_option maxHeartbeats 1000000 in
theorem lc_does (hx : p.tables.exec = Jvm.exec) (hb : c.code = code) (hml : c.maxLocals = 4) (hown : s.vm.findClass RL = some m.cls) (hG : G D (tyL cI cZ cD) s) (hX : va_X b L xs s s.heap) (hbl : b < s.heap.size) (hL : L ≤ 3072) (hi : i + 6 ≤ L) (hl : lv_has ls 4 (lk4 i (A 58) (B 0) b)) (hR : Rel u v) (hI : xI D (nw s) s.heap (wX A cI cZ cD u ++ wY B cI v) H locs) (hcl : cells ≤ room_1.cells ∧ slots ≤ room_1.slots)
    (kk : ∀ (H : Heap) (locs : List Loc) (u v : Mem), Rel u v → xI D (nw s) s.heap (wX A cI cZ cD u ++ wY B cI v) H locs → W p l e room_1 s m args below meth c H locs cells slots Q (F0 m 830 ls [])) : W p l e room_1 s m args below meth c H locs cells slots Q (F0 m 767 ls []) := by
  obtain ⟨r, u1, v1, hE1, hE2, hR1⟩ := st_does hR 
  refine lv_aload_n hx hb dL_law_767 rfl (lv_at hl 2 rfl) ?_
  refine xk_V (ws := wY B cI v) (As := []) (rest := []) (q0 := 58) (c_X8_does (l := l) (D := D) (A := A) (cI := cI) (cZ := cZ) (cD := cD) hE1) mw_X8_does km_L_95 hx hb hml hown hG hI.comm (fun _ h => h) (wG_atE (by omega) eX_58) rfl rfl ⟨(Nat.le_of_ble_eq_true rfl), (Nat.le_of_ble_eq_true rfl)⟩ ⟨hcl.1, hcl.2⟩ rfl hl.1 rfl (Nat.le_of_ble_eq_true rfl) dL_law_768 (fun H locs hI => ?_)
  have hI := hI.comm
  refine lv_aload_n hx hb dL_law_771 rfl (lv_at hl 1 rfl) ?_
  refine xk_V (ws := wX A cI cZ cD u1) (As := []) (rest := [.int r]) (q0 := 0) (c_X9_does (l := l) (D := D) (A := B) (cI := cI) (cZ := cZ) (cD := cD) hE2) mw_X9_does km_L_98 hx hb hml hown hG hI (fun _ h => h) (wG_atE (by omega) eY_0) rfl rfl ⟨(Nat.le_of_ble_eq_true rfl), (Nat.le_of_ble_eq_true rfl)⟩ ⟨hcl.1, hcl.2⟩ rfl hl.1 rfl (Nat.le_of_ble_eq_true rfl) dL_law_772 (fun H locs hI => ?_)
  exact lv_icmp_eq (tgt := 830) hx hb dL_law_775 (by decide) (fun _ => kk H locs u1 v1 hR1 hI) (fun z => absurd rfl z)
set_option maxHeartbeats 1000000 in
theorem lc_back (hx : p.tables.exec = Jvm.exec) (hb : c.code = code) (hml : c.maxLocals = 4) (hown : s.vm.findClass RL = some m.cls) (hG : G D (tyL cI cZ cD) s) (hX : va_X b L xs s s.heap) (hbl : b < s.heap.size) (hL : L ≤ 3072) (hi : i + 6 ≤ L) (hl : lv_has ls 4 (lk4 i (A 58) (B 0) b)) (hR : Rel u v) (hI : xI D (nw s) s.heap (wX A cI cZ cD u ++ wY B cI v) H locs) (hcl : cells ≤ room_1.cells ∧ slots ≤ room_1.slots)
    (kk : ∀ (H : Heap) (locs : List Loc) (u v : Mem), Rel u v → xI D (nw s) s.heap (wX A cI cZ cD u ++ wY B cI v) H locs → W p l e room_1 s m args below meth c H locs cells slots Q (F0 m 830 ls [])) : W p l e room_1 s m args below meth c H locs cells slots Q (F0 m 780 ls []) := by
  obtain ⟨r, u1, v1, hE1, hE2, hR1⟩ := st_back hR 
  refine lv_aload_n hx hb dL_law_780 rfl (lv_at hl 2 rfl) ?_
  refine xk_V (ws := wY B cI v) (As := []) (rest := []) (q0 := 58) (c_X8_back (l := l) (D := D) (A := A) (cI := cI) (cZ := cZ) (cD := cD) hE1) mw_X8_back km_L_99 hx hb hml hown hG hI.comm (fun _ h => h) (wG_atE (by omega) eX_58) rfl rfl ⟨(Nat.le_of_ble_eq_true rfl), (Nat.le_of_ble_eq_true rfl)⟩ ⟨hcl.1, hcl.2⟩ rfl hl.1 rfl (Nat.le_of_ble_eq_true rfl) dL_law_781 (fun H locs hI => ?_)
  have hI := hI.comm
  refine lv_aload_n hx hb dL_law_784 rfl (lv_at hl 1 rfl) ?_
  refine xk_V (ws := wX A cI cZ cD u1) (As := []) (rest := [.int r]) (q0 := 0) (c_X9_back (l := l) (D := D) (A := B) (cI := cI) (cZ := cZ) (cD := cD) hE2) mw_X9_back km_L_102 hx hb hml hown hG hI (fun _ h => h) (wG_atE (by omega) eY_0) rfl rfl ⟨(Nat.le_of_ble_eq_true rfl), (Nat.le_of_ble_eq_true rfl)⟩ ⟨hcl.1, hcl.2⟩ rfl hl.1 rfl (Nat.le_of_ble_eq_true rfl) dL_law_785 (fun H locs hI => ?_)
  exact lv_icmp_eq (tgt := 830) hx hb dL_law_788 (by decide) (fun _ => kk H locs u1 v1 hR1 hI) (fun z => absurd rfl z)
set_option maxHeartbeats 1000000 in
theorem lc_refused (hx : p.tables.exec = Jvm.exec) (hb : c.code = code) (hml : c.maxLocals = 4) (hown : s.vm.findClass RL = some m.cls) (hG : G D (tyL cI cZ cD) s) (hX : va_X b L xs s s.heap) (hbl : b < s.heap.size) (hL : L ≤ 3072) (hi : i + 6 ≤ L) (hl : lv_has ls 4 (lk4 i (A 58) (B 0) b)) (hR : Rel u v) (hI : xI D (nw s) s.heap (wX A cI cZ cD u ++ wY B cI v) H locs) (hcl : cells ≤ room_1.cells ∧ slots ≤ room_1.slots)
    (kk : ∀ (H : Heap) (locs : List Loc) (u v : Mem), Rel u v → xI D (nw s) s.heap (wX A cI cZ cD u ++ wY B cI v) H locs → W p l e room_1 s m args below meth c H locs cells slots Q (F0 m 830 ls [])) : W p l e room_1 s m args below meth c H locs cells slots Q (F0 m 793 ls []) := by
  obtain ⟨r, u1, v1, hE1, hE2, hR1⟩ := st_refused hR (xs (i + 1))
  refine lv_aload_n hx hb dL_law_793 rfl (lv_at hl 2 rfl) ?_
  refine xl_arg (k := 1) hx hb hX hbl hL hl hI (by decide) (by omega) dL_law_794 dL_law_795 dL_law_796 dL_law_797 dL_law_798 ?_
  refine xk_V (ws := wY B cI v) (As := [.int (xs (i + 1))]) (rest := []) (q0 := 58) (c_X8_refused (l := l) (D := D) (A := A) (cI := cI) (cZ := cZ) (cD := cD) hE1) mw_X8_refused km_L_103 hx hb hml hown hG hI.comm (fun _ h => h) (wG_atE (by omega) eX_58) rfl rfl ⟨(Nat.le_of_ble_eq_true rfl), (Nat.le_of_ble_eq_true rfl)⟩ ⟨hcl.1, hcl.2⟩ rfl hl.1 rfl (Nat.le_of_ble_eq_true rfl) dL_law_799 (fun H locs hI => ?_)
  have hI := hI.comm
  refine lv_aload_n hx hb dL_law_802 rfl (lv_at hl 1 rfl) ?_
  refine xl_arg (k := 1) hx hb hX hbl hL hl hI (by decide) (by omega) dL_law_803 dL_law_804 dL_law_805 dL_law_806 dL_law_807 ?_
  refine xk_V (ws := wX A cI cZ cD u1) (As := [.int (xs (i + 1))]) (rest := [.int r]) (q0 := 0) (c_X9_refused (l := l) (D := D) (A := B) (cI := cI) (cZ := cZ) (cD := cD) hE2) mw_X9_refused km_L_106 hx hb hml hown hG hI (fun _ h => h) (wG_atE (by omega) eY_0) rfl rfl ⟨(Nat.le_of_ble_eq_true rfl), (Nat.le_of_ble_eq_true rfl)⟩ ⟨hcl.1, hcl.2⟩ rfl hl.1 rfl (Nat.le_of_ble_eq_true rfl) dL_law_808 (fun H locs hI => ?_)
  exact lv_icmp_eq (tgt := 830) hx hb dL_law_811 (by decide) (fun _ => kk H locs u1 v1 hR1 hI) (fun z => absurd rfl z)
set_option maxHeartbeats 1000000 in
theorem lc_digest (hx : p.tables.exec = Jvm.exec) (hb : c.code = code) (hml : c.maxLocals = 4) (hown : s.vm.findClass RL = some m.cls) (hG : G D (tyL cI cZ cD) s) (hX : va_X b L xs s s.heap) (hbl : b < s.heap.size) (hL : L ≤ 3072) (hi : i + 6 ≤ L) (hl : lv_has ls 4 (lk4 i (A 58) (B 0) b)) (hR : Rel u v) (hI : xI D (nw s) s.heap (wX A cI cZ cD u ++ wY B cI v) H locs) (hcl : cells ≤ room_1.cells ∧ slots ≤ room_1.slots)
    (kk : ∀ (H : Heap) (locs : List Loc) (u v : Mem), Rel u v → xI D (nw s) s.heap (wX A cI cZ cD u ++ wY B cI v) H locs → W p l e room_1 s m args below meth c H locs cells slots Q (F0 m 830 ls [])) : W p l e room_1 s m args below meth c H locs cells slots Q (F0 m 816 ls []) := by
  obtain ⟨r, u1, v1, hE1, hE2, hR1⟩ := st_digest hR 
  refine lv_aload_n hx hb dL_law_816 rfl (lv_at hl 2 rfl) ?_
  refine xk_V (ws := wY B cI v) (As := []) (rest := []) (q0 := 58) (c_X8_digest (l := l) (D := D) (A := A) (cI := cI) (cZ := cZ) (cD := cD) hE1) mw_X8_digest km_L_107 hx hb hml hown hG hI.comm (fun _ h => h) (wG_atE (by omega) eX_58) rfl rfl ⟨(Nat.le_of_ble_eq_true rfl), (Nat.le_of_ble_eq_true rfl)⟩ ⟨hcl.1, hcl.2⟩ rfl hl.1 rfl (Nat.le_of_ble_eq_true rfl) dL_law_817 (fun H locs hI => ?_)
  have hI := hI.comm
  refine lv_aload_n hx hb dL_law_820 rfl (lv_at hl 1 rfl) ?_
  refine xk_V (ws := wX A cI cZ cD u1) (As := []) (rest := [.long r]) (q0 := 0) (c_X9_digest (l := l) (D := D) (A := B) (cI := cI) (cZ := cZ) (cD := cD) hE2) mw_X9_digest km_L_111 hx hb hml hown hG hI (fun _ h => h) (wG_atE (by omega) eY_0) rfl rfl ⟨(Nat.le_of_ble_eq_true rfl), (Nat.le_of_ble_eq_true rfl)⟩ ⟨hcl.1, hcl.2⟩ rfl hl.1 rfl (Nat.le_of_ble_eq_true rfl) dL_law_821 (fun H locs hI => ?_)
  refine xl_lcmp hx hb dL_law_824 ?_
  exact lv_if_eq (tgt := 830) hx hb dL_law_825 (by decide) (fun _ => kk H locs u1 v1 hR1 hI) (fun z => absurd rfl z)
end XL
