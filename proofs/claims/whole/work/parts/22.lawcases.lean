set_option maxHeartbeats 4000000 in
set_option maxRecDepth 100000 in
theorem wLaw_0 {p : Program} {l : Launch} {e : Env} {s : State} {m : MethodId} {args : Array Value} {below : List Frame} {meth : Method} {c : Code} {A : Nat → Prop} {Q : State → Prop} {D : va_G} {cs : Nat → ClassId} {fs a aS aT aE aG aD aR aM : Nat → Nat} {μ ς τ ε γ : St} {Γ : Nat → Int64} {δ ρ σ : St} {Λ : Nat → Int64} {dr b L N : Nat} {xs : Nat → Int32} {x3 : Int32} {r : Int32} {τ' : St} {σ' : St} (S : Fx p m c cL_law 4 s args RL) (hK : va_K D vwCl (tyL cs) s) (hA : ∀ x, s.heap.size ≤ x → A x) (hZ : Zf fs A s s.heap) (hX : va_X b L xs s s.heap) (hbl : b < s.heap.size) (hbA : ¬ A b) (hi1 : vp_in (x3 + 1) L) (hi2 : vp_in (x3 + 2) L) (hi3 : vp_in (x3 + 3) L) (hi4 : vp_in (x3 + 4) L) (hx : fMa_write N (xs (x3 + 1).toNatClampNeg) ((((xs (x3 + 2).toNatClampNeg).toInt64) <<< ((32 : Int32).toInt64 &&& 63)) ||| (((xs (x3 + 3).toNatClampNeg).toInt64) &&& (4294967295 : Int64))) τ = some (r, τ')) (hm : fMo_write N (xs (x3 + 1).toNatClampNeg) ((((xs (x3 + 2).toNatClampNeg).toInt64) <<< ((32 : Int32).toInt64 &&& 63)) ||| (((xs (x3 + 3).toNatClampNeg).toInt64) &&& (4294967295 : Int64))) σ = some (r, σ')) (hk : ∀ (H : Heap) (locs : List Loc) (ls : Array Slot), Wd D A s.heap ((wMa cs a (aT 0) (aS 0) (aD 0) (aG 0) (aR 0) (aE 0) μ ++ (wSc cs aS (aT 0) ς ++ (wTe cs aT τ' ++ (wRo cs aE ε ++ (wGa cs aG (aD 0) (aR 0) γ Γ ++ (wDa cs aD dr δ ++ (wRo cs aR ρ))))))) ++ (wMo cs aM σ' Λ)) H locs → lv_has ls 4 [(0, .ref b), (1, .ref (a 0)), (2, .ref (aM 0)), (3, .int x3)] → W p l e room_1 s m args below meth c H locs 47 4456 Q (F0 m 967 ls [])) : ∀ (H : Heap) (locs : List Loc) (ls : Array Slot), Wd D A s.heap ((wMa cs a (aT 0) (aS 0) (aD 0) (aG 0) (aR 0) (aE 0) μ ++ (wSc cs aS (aT 0) ς ++ (wTe cs aT τ ++ (wRo cs aE ε ++ (wGa cs aG (aD 0) (aR 0) γ Γ ++ (wDa cs aD dr δ ++ (wRo cs aR ρ))))))) ++ (wMo cs aM σ Λ)) H locs → lv_has ls 4 [(0, .ref b), (1, .ref (a 0)), (2, .ref (aM 0)), (3, .int x3)] → W p l e room_1 s m args below meth c H locs 47 4456 Q (F0 m 152 ls []) := by
  intro H locs ls hW hl
  refine lv_aload_n S.1 S.2.1 dL_law_152 rfl (lv_at hl 1 rfl) ?_
  refine lv_aload_n S.1 S.2.1 dL_law_153 rfl (lv_at hl 0 rfl) ?_
  refine lv_iload_n S.1 S.2.1 dL_law_154 rfl (lv_at hl 3 rfl) ?_
  refine lv_iconst (v := 1) S.1 S.2.1 dL_law_155 (by decide) ?_
  refine lv_iadd S.1 S.2.1 dL_law_156 ?_
  refine va_sld S.1 S.2.1 hX hbl hbA hW.2.2 hi1 dL_law_157 ?_
  refine lv_aload_n S.1 S.2.1 dL_law_158 rfl (lv_at hl 0 rfl) ?_
  refine lv_iload_n S.1 S.2.1 dL_law_159 rfl (lv_at hl 3 rfl) ?_
  refine lv_iconst (v := 2) S.1 S.2.1 dL_law_160 (by decide) ?_
  refine lv_iadd S.1 S.2.1 dL_law_161 ?_
  refine va_sld S.1 S.2.1 hX hbl hbA hW.2.2 hi2 dL_law_162 ?_
  refine lv_i2l S.1 S.2.1 dL_law_163 rfl ?_
  refine lv_bipush (v := 32) S.1 S.2.1 dL_law_164 (by decide) ?_
  refine lv_lshl S.1 S.2.1 dL_law_166 rfl ?_
  refine lv_aload_n S.1 S.2.1 dL_law_167 rfl (lv_at hl 0 rfl) ?_
  refine lv_iload_n S.1 S.2.1 dL_law_168 rfl (lv_at hl 3 rfl) ?_
  refine lv_iconst (v := 3) S.1 S.2.1 dL_law_169 (by decide) ?_
  refine lv_iadd S.1 S.2.1 dL_law_170 ?_
  refine va_sld S.1 S.2.1 hX hbl hbA hW.2.2 hi3 dL_law_171 ?_
  refine lv_i2l S.1 S.2.1 dL_law_172 rfl ?_
  refine lv_ldc2 (v := 4294967295) S.1 S.2.1 S.2.2.2.1 (S.2.2.2.2 _ q994) dL_law_173 ?_
  refine lv_land S.1 S.2.1 dL_law_176 ?_
  refine lv_lor S.1 S.2.1 dL_law_177 ?_
  refine kV_i (As := [.int (xs (x3 + 1).toNatClampNeg), .long ((((xs (x3 + 2).toNatClampNeg).toInt64) <<< ((32 : Int32).toInt64 &&& 63)) ||| (((xs (x3 + 3).toNatClampNeg).toInt64) &&& (4294967295 : Int64)))]) (rest := []) S hK hA (z := none) trivial [] (wMo cs aM σ Λ) hW (cMa_write l D cs a aS aT aE aG aD aR μ ς τ ε γ Γ δ ρ dr (xs (x3 + 1).toNatClampNeg) ((((xs (x3 + 2).toNatClampNeg).toInt64) <<< ((32 : Int32).toInt64 &&& 63)) ||| (((xs (x3 + 3).toNatClampNeg).toInt64) &&& (4294967295 : Int64))) N hx) (ci := 5) rfl rfl lk_L_15 q274 q275 ⟨Nat.le_of_ble_eq_true rfl, Nat.le_of_ble_eq_true rfl⟩ rfl (Nat.le_of_ble_eq_true rfl) hl.1 dL_law_178 ⟨Nat.le_of_ble_eq_true rfl, Nat.le_of_ble_eq_true rfl⟩ (fun H locs hW => ?_)
  have hW : Wd D A s.heap ((wMa cs a (aT 0) (aS 0) (aD 0) (aG 0) (aR 0) (aE 0) μ ++ (wSc cs aS (aT 0) ς ++ (wTe cs aT τ' ++ (wRo cs aE ε ++ (wGa cs aG (aD 0) (aR 0) γ Γ ++ (wDa cs aD dr δ ++ (wRo cs aR ρ))))))) ++ (wMo cs aM σ Λ)) H locs := hW
  refine lv_aload_n S.1 S.2.1 dL_law_181 rfl (lv_at hl 2 rfl) ?_
  refine lv_aload_n S.1 S.2.1 dL_law_182 rfl (lv_at hl 0 rfl) ?_
  refine lv_iload_n S.1 S.2.1 dL_law_183 rfl (lv_at hl 3 rfl) ?_
  refine lv_iconst (v := 1) S.1 S.2.1 dL_law_184 (by decide) ?_
  refine lv_iadd S.1 S.2.1 dL_law_185 ?_
  refine va_sld S.1 S.2.1 hX hbl hbA hW.2.2 hi1 dL_law_186 ?_
  refine lv_aload_n S.1 S.2.1 dL_law_187 rfl (lv_at hl 0 rfl) ?_
  refine lv_iload_n S.1 S.2.1 dL_law_188 rfl (lv_at hl 3 rfl) ?_
  refine lv_iconst (v := 2) S.1 S.2.1 dL_law_189 (by decide) ?_
  refine lv_iadd S.1 S.2.1 dL_law_190 ?_
  refine va_sld S.1 S.2.1 hX hbl hbA hW.2.2 hi2 dL_law_191 ?_
  refine lv_i2l S.1 S.2.1 dL_law_192 rfl ?_
  refine lv_bipush (v := 32) S.1 S.2.1 dL_law_193 (by decide) ?_
  refine lv_lshl S.1 S.2.1 dL_law_195 rfl ?_
  refine lv_aload_n S.1 S.2.1 dL_law_196 rfl (lv_at hl 0 rfl) ?_
  refine lv_iload_n S.1 S.2.1 dL_law_197 rfl (lv_at hl 3 rfl) ?_
  refine lv_iconst (v := 3) S.1 S.2.1 dL_law_198 (by decide) ?_
  refine lv_iadd S.1 S.2.1 dL_law_199 ?_
  refine va_sld S.1 S.2.1 hX hbl hbA hW.2.2 hi3 dL_law_200 ?_
  refine lv_i2l S.1 S.2.1 dL_law_201 rfl ?_
  refine lv_ldc2 (v := 4294967295) S.1 S.2.1 S.2.2.2.1 (S.2.2.2.2 _ q994) dL_law_202 ?_
  refine lv_land S.1 S.2.1 dL_law_205 ?_
  refine lv_lor S.1 S.2.1 dL_law_206 ?_
  have hW := kw (w' := (wMa cs a (aT 0) (aS 0) (aD 0) (aG 0) (aR 0) (aE 0) μ ++ (wSc cs aS (aT 0) ς ++ (wTe cs aT τ' ++ (wRo cs aE ε ++ (wGa cs aG (aD 0) (aR 0) γ Γ ++ (wDa cs aD dr δ ++ (wRo cs aR ρ))))))) ++ ((wMo cs aM σ Λ) ++ [])) (by rw [List.append_nil]) hW
  refine kV_i (As := [.int (xs (x3 + 1).toNatClampNeg), .long ((((xs (x3 + 2).toNatClampNeg).toInt64) <<< ((32 : Int32).toInt64 &&& 63)) ||| (((xs (x3 + 3).toNatClampNeg).toInt64) &&& (4294967295 : Int64)))]) (rest := [.int r]) S hK hA (z := none) trivial ((wMa cs a (aT 0) (aS 0) (aD 0) (aG 0) (aR 0) (aE 0) μ ++ (wSc cs aS (aT 0) ς ++ (wTe cs aT τ' ++ (wRo cs aE ε ++ (wGa cs aG (aD 0) (aR 0) γ Γ ++ (wDa cs aD dr δ ++ (wRo cs aR ρ)))))))) [] hW (cMo_write l D cs aM σ Λ (xs (x3 + 1).toNatClampNeg) ((((xs (x3 + 2).toNatClampNeg).toInt64) <<< ((32 : Int32).toInt64 &&& 63)) ||| (((xs (x3 + 3).toNatClampNeg).toInt64) &&& (4294967295 : Int64))) N hm) (ci := 6) rfl rfl lk_L_19 q772 q773 ⟨Nat.le_of_ble_eq_true rfl, Nat.le_of_ble_eq_true rfl⟩ rfl (Nat.le_of_ble_eq_true rfl) hl.1 dL_law_207 ⟨Nat.le_of_ble_eq_true rfl, Nat.le_of_ble_eq_true rfl⟩ (fun H locs hW => ?_)
  have hW : Wd D A s.heap ((wMa cs a (aT 0) (aS 0) (aD 0) (aG 0) (aR 0) (aE 0) μ ++ (wSc cs aS (aT 0) ς ++ (wTe cs aT τ' ++ (wRo cs aE ε ++ (wGa cs aG (aD 0) (aR 0) γ Γ ++ (wDa cs aD dr δ ++ (wRo cs aR ρ))))))) ++ (wMo cs aM σ' Λ)) H locs := kw (by rw [List.append_nil]) hW
  refine lv_icmp_eq (tgt := 967) S.1 S.2.1 dL_law_210 (by decide) (fun c9 => ?_) (fun c9 => ?_)
  · exact hk _ _ _ hW hl
  · exact absurd rfl c9
set_option maxHeartbeats 4000000 in
set_option maxRecDepth 100000 in
theorem wLaw_1 {p : Program} {l : Launch} {e : Env} {s : State} {m : MethodId} {args : Array Value} {below : List Frame} {meth : Method} {c : Code} {A : Nat → Prop} {Q : State → Prop} {D : va_G} {cs : Nat → ClassId} {fs a aS aT aE aG aD aR aM : Nat → Nat} {μ ς τ ε γ : St} {Γ : Nat → Int64} {δ ρ σ : St} {Λ : Nat → Int64} {dr b L N : Nat} {xs : Nat → Int32} {x3 : Int32} {r : Int32} {τ' : St} {σ' : St} (S : Fx p m c cL_law 4 s args RL) (hK : va_K D vwCl (tyL cs) s) (hA : ∀ x, s.heap.size ≤ x → A x) (hZ : Zf fs A s s.heap) (hX : va_X b L xs s s.heap) (hbl : b < s.heap.size) (hbA : ¬ A b) (hi1 : vp_in (x3 + 1) L) (hi2 : vp_in (x3 + 2) L) (hi3 : vp_in (x3 + 3) L) (hi4 : vp_in (x3 + 4) L) (hx : fMa_wipe N τ = some (r, τ')) (hm : fMo_wipe N σ = some (r, σ')) (hk : ∀ (H : Heap) (locs : List Loc) (ls : Array Slot), Wd D A s.heap ((wMa cs a (aT 0) (aS 0) (aD 0) (aG 0) (aR 0) (aE 0) μ ++ (wSc cs aS (aT 0) ς ++ (wTe cs aT τ' ++ (wRo cs aE ε ++ (wGa cs aG (aD 0) (aR 0) γ Γ ++ (wDa cs aD dr δ ++ (wRo cs aR ρ))))))) ++ (wMo cs aM σ' Λ)) H locs → lv_has ls 4 [(0, .ref b), (1, .ref (a 0)), (2, .ref (aM 0)), (3, .int x3)] → W p l e room_1 s m args below meth c H locs 47 4456 Q (F0 m 967 ls [])) : ∀ (H : Heap) (locs : List Loc) (ls : Array Slot), Wd D A s.heap ((wMa cs a (aT 0) (aS 0) (aD 0) (aG 0) (aR 0) (aE 0) μ ++ (wSc cs aS (aT 0) ς ++ (wTe cs aT τ ++ (wRo cs aE ε ++ (wGa cs aG (aD 0) (aR 0) γ Γ ++ (wDa cs aD dr δ ++ (wRo cs aR ρ))))))) ++ (wMo cs aM σ Λ)) H locs → lv_has ls 4 [(0, .ref b), (1, .ref (a 0)), (2, .ref (aM 0)), (3, .int x3)] → W p l e room_1 s m args below meth c H locs 47 4456 Q (F0 m 215 ls []) := by
  intro H locs ls hW hl
  refine lv_aload_n S.1 S.2.1 dL_law_215 rfl (lv_at hl 1 rfl) ?_
  refine kV_i (As := []) (rest := []) S hK hA (z := none) trivial [] (wMo cs aM σ Λ) hW (cMa_wipe l D cs a aS aT aE aG aD aR μ ς τ ε γ Γ δ ρ dr N hx) (ci := 5) rfl rfl lk_L_20 q289 q290 ⟨Nat.le_of_ble_eq_true rfl, Nat.le_of_ble_eq_true rfl⟩ rfl (Nat.le_of_ble_eq_true rfl) hl.1 dL_law_216 ⟨Nat.le_of_ble_eq_true rfl, Nat.le_of_ble_eq_true rfl⟩ (fun H locs hW => ?_)
  have hW : Wd D A s.heap ((wMa cs a (aT 0) (aS 0) (aD 0) (aG 0) (aR 0) (aE 0) μ ++ (wSc cs aS (aT 0) ς ++ (wTe cs aT τ' ++ (wRo cs aE ε ++ (wGa cs aG (aD 0) (aR 0) γ Γ ++ (wDa cs aD dr δ ++ (wRo cs aR ρ))))))) ++ (wMo cs aM σ Λ)) H locs := hW
  refine lv_aload_n S.1 S.2.1 dL_law_219 rfl (lv_at hl 2 rfl) ?_
  have hW := kw (w' := (wMa cs a (aT 0) (aS 0) (aD 0) (aG 0) (aR 0) (aE 0) μ ++ (wSc cs aS (aT 0) ς ++ (wTe cs aT τ' ++ (wRo cs aE ε ++ (wGa cs aG (aD 0) (aR 0) γ Γ ++ (wDa cs aD dr δ ++ (wRo cs aR ρ))))))) ++ ((wMo cs aM σ Λ) ++ [])) (by rw [List.append_nil]) hW
  refine kV_i (As := []) (rest := [.int r]) S hK hA (z := none) trivial ((wMa cs a (aT 0) (aS 0) (aD 0) (aG 0) (aR 0) (aE 0) μ ++ (wSc cs aS (aT 0) ς ++ (wTe cs aT τ' ++ (wRo cs aE ε ++ (wGa cs aG (aD 0) (aR 0) γ Γ ++ (wDa cs aD dr δ ++ (wRo cs aR ρ)))))))) [] hW (cMo_wipe l D cs aM σ Λ N hm) (ci := 6) rfl rfl lk_L_24 q780 q781 ⟨Nat.le_of_ble_eq_true rfl, Nat.le_of_ble_eq_true rfl⟩ rfl (Nat.le_of_ble_eq_true rfl) hl.1 dL_law_220 ⟨Nat.le_of_ble_eq_true rfl, Nat.le_of_ble_eq_true rfl⟩ (fun H locs hW => ?_)
  have hW : Wd D A s.heap ((wMa cs a (aT 0) (aS 0) (aD 0) (aG 0) (aR 0) (aE 0) μ ++ (wSc cs aS (aT 0) ς ++ (wTe cs aT τ' ++ (wRo cs aE ε ++ (wGa cs aG (aD 0) (aR 0) γ Γ ++ (wDa cs aD dr δ ++ (wRo cs aR ρ))))))) ++ (wMo cs aM σ' Λ)) H locs := kw (by rw [List.append_nil]) hW
  refine lv_icmp_eq (tgt := 967) S.1 S.2.1 dL_law_223 (by decide) (fun c9 => ?_) (fun c9 => ?_)
  · exact hk _ _ _ hW hl
  · exact absurd rfl c9
set_option maxHeartbeats 4000000 in
set_option maxRecDepth 100000 in
theorem wLaw_2 {p : Program} {l : Launch} {e : Env} {s : State} {m : MethodId} {args : Array Value} {below : List Frame} {meth : Method} {c : Code} {A : Nat → Prop} {Q : State → Prop} {D : va_G} {cs : Nat → ClassId} {fs a aS aT aE aG aD aR aM : Nat → Nat} {μ ς τ ε γ : St} {Γ : Nat → Int64} {δ ρ σ : St} {Λ : Nat → Int64} {dr b L N : Nat} {xs : Nat → Int32} {x3 : Int32} {r : Int32} {ς' : St} {ε' : St} {σ' : St} (S : Fx p m c cL_law 4 s args RL) (hK : va_K D vwCl (tyL cs) s) (hA : ∀ x, s.heap.size ≤ x → A x) (hZ : Zf fs A s s.heap) (hX : va_X b L xs s s.heap) (hbl : b < s.heap.size) (hbA : ¬ A b) (hi1 : vp_in (x3 + 1) L) (hi2 : vp_in (x3 + 2) L) (hi3 : vp_in (x3 + 3) L) (hi4 : vp_in (x3 + 4) L) (hx : fMa_fault N τ ς ε = some (r, ς', ε')) (hm : fMo_fault N σ = some (r, σ')) (hk : ∀ (H : Heap) (locs : List Loc) (ls : Array Slot), Wd D A s.heap ((wMa cs a (aT 0) (aS 0) (aD 0) (aG 0) (aR 0) (aE 0) μ ++ (wSc cs aS (aT 0) ς' ++ (wTe cs aT τ ++ (wRo cs aE ε' ++ (wGa cs aG (aD 0) (aR 0) γ Γ ++ (wDa cs aD dr δ ++ (wRo cs aR ρ))))))) ++ (wMo cs aM σ' Λ)) H locs → lv_has ls 4 [(0, .ref b), (1, .ref (a 0)), (2, .ref (aM 0)), (3, .int x3)] → W p l e room_1 s m args below meth c H locs 47 4456 Q (F0 m 967 ls [])) : ∀ (H : Heap) (locs : List Loc) (ls : Array Slot), Wd D A s.heap ((wMa cs a (aT 0) (aS 0) (aD 0) (aG 0) (aR 0) (aE 0) μ ++ (wSc cs aS (aT 0) ς ++ (wTe cs aT τ ++ (wRo cs aE ε ++ (wGa cs aG (aD 0) (aR 0) γ Γ ++ (wDa cs aD dr δ ++ (wRo cs aR ρ))))))) ++ (wMo cs aM σ Λ)) H locs → lv_has ls 4 [(0, .ref b), (1, .ref (a 0)), (2, .ref (aM 0)), (3, .int x3)] → W p l e room_1 s m args below meth c H locs 47 4456 Q (F0 m 228 ls []) := by
  intro H locs ls hW hl
  refine lv_aload_n S.1 S.2.1 dL_law_228 rfl (lv_at hl 1 rfl) ?_
  refine kV_i (As := []) (rest := []) S hK hA (z := (some fs)) hZ [] (wMo cs aM σ Λ) hW (cMa_fault l D cs fs a aS aT aE aG aD aR μ ς τ ε γ Γ δ ρ dr N hx) (ci := 5) rfl rfl lk_L_25 q297 q298 ⟨Nat.le_of_ble_eq_true rfl, Nat.le_of_ble_eq_true rfl⟩ rfl (Nat.le_of_ble_eq_true rfl) hl.1 dL_law_229 ⟨Nat.le_of_ble_eq_true rfl, Nat.le_of_ble_eq_true rfl⟩ (fun H locs hW => ?_)
  have hW : Wd D A s.heap ((wMa cs a (aT 0) (aS 0) (aD 0) (aG 0) (aR 0) (aE 0) μ ++ (wSc cs aS (aT 0) ς' ++ (wTe cs aT τ ++ (wRo cs aE ε' ++ (wGa cs aG (aD 0) (aR 0) γ Γ ++ (wDa cs aD dr δ ++ (wRo cs aR ρ))))))) ++ (wMo cs aM σ Λ)) H locs := hW
  refine lv_aload_n S.1 S.2.1 dL_law_232 rfl (lv_at hl 2 rfl) ?_
  have hW := kw (w' := (wMa cs a (aT 0) (aS 0) (aD 0) (aG 0) (aR 0) (aE 0) μ ++ (wSc cs aS (aT 0) ς' ++ (wTe cs aT τ ++ (wRo cs aE ε' ++ (wGa cs aG (aD 0) (aR 0) γ Γ ++ (wDa cs aD dr δ ++ (wRo cs aR ρ))))))) ++ ((wMo cs aM σ Λ) ++ [])) (by rw [List.append_nil]) hW
  refine kV_i (As := []) (rest := [.int r]) S hK hA (z := none) trivial ((wMa cs a (aT 0) (aS 0) (aD 0) (aG 0) (aR 0) (aE 0) μ ++ (wSc cs aS (aT 0) ς' ++ (wTe cs aT τ ++ (wRo cs aE ε' ++ (wGa cs aG (aD 0) (aR 0) γ Γ ++ (wDa cs aD dr δ ++ (wRo cs aR ρ)))))))) [] hW (cMo_fault l D cs aM σ Λ N hm) (ci := 6) rfl rfl lk_L_28 q784 q785 ⟨Nat.le_of_ble_eq_true rfl, Nat.le_of_ble_eq_true rfl⟩ rfl (Nat.le_of_ble_eq_true rfl) hl.1 dL_law_233 ⟨Nat.le_of_ble_eq_true rfl, Nat.le_of_ble_eq_true rfl⟩ (fun H locs hW => ?_)
  have hW : Wd D A s.heap ((wMa cs a (aT 0) (aS 0) (aD 0) (aG 0) (aR 0) (aE 0) μ ++ (wSc cs aS (aT 0) ς' ++ (wTe cs aT τ ++ (wRo cs aE ε' ++ (wGa cs aG (aD 0) (aR 0) γ Γ ++ (wDa cs aD dr δ ++ (wRo cs aR ρ))))))) ++ (wMo cs aM σ' Λ)) H locs := kw (by rw [List.append_nil]) hW
  refine lv_icmp_eq (tgt := 967) S.1 S.2.1 dL_law_236 (by decide) (fun c9 => ?_) (fun c9 => ?_)
  · exact hk _ _ _ hW hl
  · exact absurd rfl c9
set_option maxHeartbeats 4000000 in
set_option maxRecDepth 100000 in
theorem wLaw_3 {p : Program} {l : Launch} {e : Env} {s : State} {m : MethodId} {args : Array Value} {below : List Frame} {meth : Method} {c : Code} {A : Nat → Prop} {Q : State → Prop} {D : va_G} {cs : Nat → ClassId} {fs a aS aT aE aG aD aR aM : Nat → Nat} {μ ς τ ε γ : St} {Γ : Nat → Int64} {δ ρ σ : St} {Λ : Nat → Int64} {dr b L N : Nat} {xs : Nat → Int32} {x3 : Int32} {r : Int32} {bb : Bool} {μ' ς' ε' γ' ρ' : St} {σ' : St} (S : Fx p m c cL_law 4 s args RL) (hK : va_K D vwCl (tyL cs) s) (hA : ∀ x, s.heap.size ≤ x → A x) (hZ : Zf fs A s s.heap) (hX : va_X b L xs s s.heap) (hbl : b < s.heap.size) (hbA : ¬ A b) (hi1 : vp_in (x3 + 1) L) (hi2 : vp_in (x3 + 2) L) (hi3 : vp_in (x3 + 3) L) (hi4 : vp_in (x3 + 4) L) (hx : fMa_lay N τ μ ς ε γ ρ = some (r, bb, μ', ς', ε', γ', ρ')) (hm : fMo_lay N σ = some (r, σ')) (hk : ∀ (H : Heap) (locs : List Loc) (ls : Array Slot), Wd D A s.heap ((wMa cs a (aT 0) (aS 0) (aD 0) (aG 0) ((cond bb aE aR) 0) ((cond bb aR aE) 0) μ' ++ (wSc cs aS (aT 0) ς' ++ (wTe cs aT τ ++ (wRo cs (cond bb aR aE) ε' ++ (wGa cs aG (aD 0) ((cond bb aE aR) 0) γ' Γ ++ (wDa cs aD dr δ ++ (wRo cs (cond bb aE aR) ρ'))))))) ++ (wMo cs aM σ' Λ)) H locs → lv_has ls 4 [(0, .ref b), (1, .ref (a 0)), (2, .ref (aM 0)), (3, .int x3)] → W p l e room_1 s m args below meth c H locs 47 4456 Q (F0 m 967 ls [])) : ∀ (H : Heap) (locs : List Loc) (ls : Array Slot), Wd D A s.heap ((wMa cs a (aT 0) (aS 0) (aD 0) (aG 0) (aR 0) (aE 0) μ ++ (wSc cs aS (aT 0) ς ++ (wTe cs aT τ ++ (wRo cs aE ε ++ (wGa cs aG (aD 0) (aR 0) γ Γ ++ (wDa cs aD dr δ ++ (wRo cs aR ρ))))))) ++ (wMo cs aM σ Λ)) H locs → lv_has ls 4 [(0, .ref b), (1, .ref (a 0)), (2, .ref (aM 0)), (3, .int x3)] → W p l e room_1 s m args below meth c H locs 47 4456 Q (F0 m 241 ls []) := by
  intro H locs ls hW hl
  refine lv_aload_n S.1 S.2.1 dL_law_241 rfl (lv_at hl 1 rfl) ?_
  refine kV_i (As := []) (rest := []) S hK hA (z := (some fs)) hZ [] (wMo cs aM σ Λ) hW (cMa_lay l D cs fs a aS aT aE aG aD aR μ ς τ ε γ Γ δ ρ dr N hx) (ci := 5) rfl rfl lk_L_29 q350 q351 ⟨Nat.le_of_ble_eq_true rfl, Nat.le_of_ble_eq_true rfl⟩ rfl (Nat.le_of_ble_eq_true rfl) hl.1 dL_law_242 ⟨Nat.le_of_ble_eq_true rfl, Nat.le_of_ble_eq_true rfl⟩ (fun H locs hW => ?_)
  have hW : Wd D A s.heap ((wMa cs a (aT 0) (aS 0) (aD 0) (aG 0) ((cond bb aE aR) 0) ((cond bb aR aE) 0) μ' ++ (wSc cs aS (aT 0) ς' ++ (wTe cs aT τ ++ (wRo cs (cond bb aR aE) ε' ++ (wGa cs aG (aD 0) ((cond bb aE aR) 0) γ' Γ ++ (wDa cs aD dr δ ++ (wRo cs (cond bb aE aR) ρ'))))))) ++ (wMo cs aM σ Λ)) H locs := hW
  refine lv_aload_n S.1 S.2.1 dL_law_245 rfl (lv_at hl 2 rfl) ?_
  have hW := kw (w' := (wMa cs a (aT 0) (aS 0) (aD 0) (aG 0) ((cond bb aE aR) 0) ((cond bb aR aE) 0) μ' ++ (wSc cs aS (aT 0) ς' ++ (wTe cs aT τ ++ (wRo cs (cond bb aR aE) ε' ++ (wGa cs aG (aD 0) ((cond bb aE aR) 0) γ' Γ ++ (wDa cs aD dr δ ++ (wRo cs (cond bb aE aR) ρ'))))))) ++ ((wMo cs aM σ Λ) ++ [])) (by rw [List.append_nil]) hW
  refine kV_i (As := []) (rest := [.int r]) S hK hA (z := none) trivial ((wMa cs a (aT 0) (aS 0) (aD 0) (aG 0) ((cond bb aE aR) 0) ((cond bb aR aE) 0) μ' ++ (wSc cs aS (aT 0) ς' ++ (wTe cs aT τ ++ (wRo cs (cond bb aR aE) ε' ++ (wGa cs aG (aD 0) ((cond bb aE aR) 0) γ' Γ ++ (wDa cs aD dr δ ++ (wRo cs (cond bb aE aR) ρ')))))))) [] hW (cMo_lay l D cs aM σ Λ N hm) (ci := 6) rfl rfl lk_L_32 q810 q811 ⟨Nat.le_of_ble_eq_true rfl, Nat.le_of_ble_eq_true rfl⟩ rfl (Nat.le_of_ble_eq_true rfl) hl.1 dL_law_246 ⟨Nat.le_of_ble_eq_true rfl, Nat.le_of_ble_eq_true rfl⟩ (fun H locs hW => ?_)
  have hW : Wd D A s.heap ((wMa cs a (aT 0) (aS 0) (aD 0) (aG 0) ((cond bb aE aR) 0) ((cond bb aR aE) 0) μ' ++ (wSc cs aS (aT 0) ς' ++ (wTe cs aT τ ++ (wRo cs (cond bb aR aE) ε' ++ (wGa cs aG (aD 0) ((cond bb aE aR) 0) γ' Γ ++ (wDa cs aD dr δ ++ (wRo cs (cond bb aE aR) ρ'))))))) ++ (wMo cs aM σ' Λ)) H locs := kw (by rw [List.append_nil]) hW
  refine lv_icmp_eq (tgt := 967) S.1 S.2.1 dL_law_249 (by decide) (fun c9 => ?_) (fun c9 => ?_)
  · exact hk _ _ _ hW hl
  · exact absurd rfl c9
set_option maxHeartbeats 4000000 in
set_option maxRecDepth 100000 in
theorem wLaw_4 {p : Program} {l : Launch} {e : Env} {s : State} {m : MethodId} {args : Array Value} {below : List Frame} {meth : Method} {c : Code} {A : Nat → Prop} {Q : State → Prop} {D : va_G} {cs : Nat → ClassId} {fs a aS aT aE aG aD aR aM : Nat → Nat} {μ ς τ ε γ : St} {Γ : Nat → Int64} {δ ρ σ : St} {Λ : Nat → Int64} {dr b L N : Nat} {xs : Nat → Int32} {x3 : Int32} {r : Int32} (S : Fx p m c cL_law 4 s args RL) (hK : va_K D vwCl (tyL cs) s) (hA : ∀ x, s.heap.size ≤ x → A x) (hZ : Zf fs A s s.heap) (hX : va_X b L xs s s.heap) (hbl : b < s.heap.size) (hbA : ¬ A b) (hi1 : vp_in (x3 + 1) L) (hi2 : vp_in (x3 + 2) L) (hi3 : vp_in (x3 + 3) L) (hi4 : vp_in (x3 + 4) L) (hx : fMa_reader N (xs (x3 + 1).toNatClampNeg) (xs (x3 + 2).toNatClampNeg) μ ρ = some r) (hm : fMo_reader N (xs (x3 + 1).toNatClampNeg) (xs (x3 + 2).toNatClampNeg) σ = some r) (hk : ∀ (H : Heap) (locs : List Loc) (ls : Array Slot), Wd D A s.heap ((wMa cs a (aT 0) (aS 0) (aD 0) (aG 0) (aR 0) (aE 0) μ ++ (wSc cs aS (aT 0) ς ++ (wTe cs aT τ ++ (wRo cs aE ε ++ (wGa cs aG (aD 0) (aR 0) γ Γ ++ (wDa cs aD dr δ ++ (wRo cs aR ρ))))))) ++ (wMo cs aM σ Λ)) H locs → lv_has ls 4 [(0, .ref b), (1, .ref (a 0)), (2, .ref (aM 0)), (3, .int x3)] → W p l e room_1 s m args below meth c H locs 47 4456 Q (F0 m 967 ls [])) : ∀ (H : Heap) (locs : List Loc) (ls : Array Slot), Wd D A s.heap ((wMa cs a (aT 0) (aS 0) (aD 0) (aG 0) (aR 0) (aE 0) μ ++ (wSc cs aS (aT 0) ς ++ (wTe cs aT τ ++ (wRo cs aE ε ++ (wGa cs aG (aD 0) (aR 0) γ Γ ++ (wDa cs aD dr δ ++ (wRo cs aR ρ))))))) ++ (wMo cs aM σ Λ)) H locs → lv_has ls 4 [(0, .ref b), (1, .ref (a 0)), (2, .ref (aM 0)), (3, .int x3)] → W p l e room_1 s m args below meth c H locs 47 4456 Q (F0 m 254 ls []) := by
  intro H locs ls hW hl
  refine lv_aload_n S.1 S.2.1 dL_law_254 rfl (lv_at hl 1 rfl) ?_
  refine lv_aload_n S.1 S.2.1 dL_law_255 rfl (lv_at hl 0 rfl) ?_
  refine lv_iload_n S.1 S.2.1 dL_law_256 rfl (lv_at hl 3 rfl) ?_
  refine lv_iconst (v := 1) S.1 S.2.1 dL_law_257 (by decide) ?_
  refine lv_iadd S.1 S.2.1 dL_law_258 ?_
  refine va_sld S.1 S.2.1 hX hbl hbA hW.2.2 hi1 dL_law_259 ?_
  refine lv_aload_n S.1 S.2.1 dL_law_260 rfl (lv_at hl 0 rfl) ?_
  refine lv_iload_n S.1 S.2.1 dL_law_261 rfl (lv_at hl 3 rfl) ?_
  refine lv_iconst (v := 2) S.1 S.2.1 dL_law_262 (by decide) ?_
  refine lv_iadd S.1 S.2.1 dL_law_263 ?_
  refine va_sld S.1 S.2.1 hX hbl hbA hW.2.2 hi2 dL_law_264 ?_
  refine kV_i (As := [.int (xs (x3 + 1).toNatClampNeg), .int (xs (x3 + 2).toNatClampNeg)]) (rest := []) S hK hA (z := none) trivial [] (wMo cs aM σ Λ) hW (cMa_reader l D cs a aS aT aE aG aD aR μ ς τ ε γ Γ δ ρ dr (xs (x3 + 1).toNatClampNeg) (xs (x3 + 2).toNatClampNeg) N hx) (ci := 5) rfl rfl lk_L_33 q366 q367 ⟨Nat.le_of_ble_eq_true rfl, Nat.le_of_ble_eq_true rfl⟩ rfl (Nat.le_of_ble_eq_true rfl) hl.1 dL_law_265 ⟨Nat.le_of_ble_eq_true rfl, Nat.le_of_ble_eq_true rfl⟩ (fun H locs hW => ?_)
  have hW : Wd D A s.heap ((wMa cs a (aT 0) (aS 0) (aD 0) (aG 0) (aR 0) (aE 0) μ ++ (wSc cs aS (aT 0) ς ++ (wTe cs aT τ ++ (wRo cs aE ε ++ (wGa cs aG (aD 0) (aR 0) γ Γ ++ (wDa cs aD dr δ ++ (wRo cs aR ρ))))))) ++ (wMo cs aM σ Λ)) H locs := hW
  refine lv_aload_n S.1 S.2.1 dL_law_268 rfl (lv_at hl 2 rfl) ?_
  refine lv_aload_n S.1 S.2.1 dL_law_269 rfl (lv_at hl 0 rfl) ?_
  refine lv_iload_n S.1 S.2.1 dL_law_270 rfl (lv_at hl 3 rfl) ?_
  refine lv_iconst (v := 1) S.1 S.2.1 dL_law_271 (by decide) ?_
  refine lv_iadd S.1 S.2.1 dL_law_272 ?_
  refine va_sld S.1 S.2.1 hX hbl hbA hW.2.2 hi1 dL_law_273 ?_
  refine lv_aload_n S.1 S.2.1 dL_law_274 rfl (lv_at hl 0 rfl) ?_
  refine lv_iload_n S.1 S.2.1 dL_law_275 rfl (lv_at hl 3 rfl) ?_
  refine lv_iconst (v := 2) S.1 S.2.1 dL_law_276 (by decide) ?_
  refine lv_iadd S.1 S.2.1 dL_law_277 ?_
  refine va_sld S.1 S.2.1 hX hbl hbA hW.2.2 hi2 dL_law_278 ?_
  have hW := kw (w' := (wMa cs a (aT 0) (aS 0) (aD 0) (aG 0) (aR 0) (aE 0) μ ++ (wSc cs aS (aT 0) ς ++ (wTe cs aT τ ++ (wRo cs aE ε ++ (wGa cs aG (aD 0) (aR 0) γ Γ ++ (wDa cs aD dr δ ++ (wRo cs aR ρ))))))) ++ ((wMo cs aM σ Λ) ++ [])) (by rw [List.append_nil]) hW
  refine kV_i (As := [.int (xs (x3 + 1).toNatClampNeg), .int (xs (x3 + 2).toNatClampNeg)]) (rest := [.int r]) S hK hA (z := none) trivial ((wMa cs a (aT 0) (aS 0) (aD 0) (aG 0) (aR 0) (aE 0) μ ++ (wSc cs aS (aT 0) ς ++ (wTe cs aT τ ++ (wRo cs aE ε ++ (wGa cs aG (aD 0) (aR 0) γ Γ ++ (wDa cs aD dr δ ++ (wRo cs aR ρ)))))))) [] hW (cMo_reader l D cs aM σ Λ (xs (x3 + 1).toNatClampNeg) (xs (x3 + 2).toNatClampNeg) N hm) (ci := 6) rfl rfl lk_L_37 q815 q816 ⟨Nat.le_of_ble_eq_true rfl, Nat.le_of_ble_eq_true rfl⟩ rfl (Nat.le_of_ble_eq_true rfl) hl.1 dL_law_279 ⟨Nat.le_of_ble_eq_true rfl, Nat.le_of_ble_eq_true rfl⟩ (fun H locs hW => ?_)
  have hW : Wd D A s.heap ((wMa cs a (aT 0) (aS 0) (aD 0) (aG 0) (aR 0) (aE 0) μ ++ (wSc cs aS (aT 0) ς ++ (wTe cs aT τ ++ (wRo cs aE ε ++ (wGa cs aG (aD 0) (aR 0) γ Γ ++ (wDa cs aD dr δ ++ (wRo cs aR ρ))))))) ++ (wMo cs aM σ Λ)) H locs := kw (by rw [List.append_nil]) hW
  refine lv_icmp_eq (tgt := 967) S.1 S.2.1 dL_law_282 (by decide) (fun c9 => ?_) (fun c9 => ?_)
  · exact hk _ _ _ hW hl
  · exact absurd rfl c9
set_option maxHeartbeats 4000000 in
set_option maxRecDepth 100000 in
theorem wLaw_5 {p : Program} {l : Launch} {e : Env} {s : State} {m : MethodId} {args : Array Value} {below : List Frame} {meth : Method} {c : Code} {A : Nat → Prop} {Q : State → Prop} {D : va_G} {cs : Nat → ClassId} {fs a aS aT aE aG aD aR aM : Nat → Nat} {μ ς τ ε γ : St} {Γ : Nat → Int64} {δ ρ σ : St} {Λ : Nat → Int64} {dr b L N : Nat} {xs : Nat → Int32} {x3 : Int32} {r : Int32} (S : Fx p m c cL_law 4 s args RL) (hK : va_K D vwCl (tyL cs) s) (hA : ∀ x, s.heap.size ≤ x → A x) (hZ : Zf fs A s s.heap) (hX : va_X b L xs s s.heap) (hbl : b < s.heap.size) (hbA : ¬ A b) (hi1 : vp_in (x3 + 1) L) (hi2 : vp_in (x3 + 2) L) (hi3 : vp_in (x3 + 3) L) (hi4 : vp_in (x3 + 4) L) (hx : fMa_kind N (xs (x3 + 1).toNatClampNeg) ρ = some r) (hm : fMo_kind N (xs (x3 + 1).toNatClampNeg) σ = some r) (hk : ∀ (H : Heap) (locs : List Loc) (ls : Array Slot), Wd D A s.heap ((wMa cs a (aT 0) (aS 0) (aD 0) (aG 0) (aR 0) (aE 0) μ ++ (wSc cs aS (aT 0) ς ++ (wTe cs aT τ ++ (wRo cs aE ε ++ (wGa cs aG (aD 0) (aR 0) γ Γ ++ (wDa cs aD dr δ ++ (wRo cs aR ρ))))))) ++ (wMo cs aM σ Λ)) H locs → lv_has ls 4 [(0, .ref b), (1, .ref (a 0)), (2, .ref (aM 0)), (3, .int x3)] → W p l e room_1 s m args below meth c H locs 47 4456 Q (F0 m 967 ls [])) : ∀ (H : Heap) (locs : List Loc) (ls : Array Slot), Wd D A s.heap ((wMa cs a (aT 0) (aS 0) (aD 0) (aG 0) (aR 0) (aE 0) μ ++ (wSc cs aS (aT 0) ς ++ (wTe cs aT τ ++ (wRo cs aE ε ++ (wGa cs aG (aD 0) (aR 0) γ Γ ++ (wDa cs aD dr δ ++ (wRo cs aR ρ))))))) ++ (wMo cs aM σ Λ)) H locs → lv_has ls 4 [(0, .ref b), (1, .ref (a 0)), (2, .ref (aM 0)), (3, .int x3)] → W p l e room_1 s m args below meth c H locs 47 4456 Q (F0 m 287 ls []) := by
  intro H locs ls hW hl
  refine lv_aload_n S.1 S.2.1 dL_law_287 rfl (lv_at hl 1 rfl) ?_
  refine lv_aload_n S.1 S.2.1 dL_law_288 rfl (lv_at hl 0 rfl) ?_
  refine lv_iload_n S.1 S.2.1 dL_law_289 rfl (lv_at hl 3 rfl) ?_
  refine lv_iconst (v := 1) S.1 S.2.1 dL_law_290 (by decide) ?_
  refine lv_iadd S.1 S.2.1 dL_law_291 ?_
  refine va_sld S.1 S.2.1 hX hbl hbA hW.2.2 hi1 dL_law_292 ?_
  refine kV_i (As := [.int (xs (x3 + 1).toNatClampNeg)]) (rest := []) S hK hA (z := none) trivial [] (wMo cs aM σ Λ) hW (cMa_kind l D cs a aS aT aE aG aD aR μ ς τ ε γ Γ δ ρ dr (xs (x3 + 1).toNatClampNeg) N hx) (ci := 5) rfl rfl lk_L_38 q378 q379 ⟨Nat.le_of_ble_eq_true rfl, Nat.le_of_ble_eq_true rfl⟩ rfl (Nat.le_of_ble_eq_true rfl) hl.1 dL_law_293 ⟨Nat.le_of_ble_eq_true rfl, Nat.le_of_ble_eq_true rfl⟩ (fun H locs hW => ?_)
  have hW : Wd D A s.heap ((wMa cs a (aT 0) (aS 0) (aD 0) (aG 0) (aR 0) (aE 0) μ ++ (wSc cs aS (aT 0) ς ++ (wTe cs aT τ ++ (wRo cs aE ε ++ (wGa cs aG (aD 0) (aR 0) γ Γ ++ (wDa cs aD dr δ ++ (wRo cs aR ρ))))))) ++ (wMo cs aM σ Λ)) H locs := hW
  refine lv_aload_n S.1 S.2.1 dL_law_296 rfl (lv_at hl 2 rfl) ?_
  refine lv_aload_n S.1 S.2.1 dL_law_297 rfl (lv_at hl 0 rfl) ?_
  refine lv_iload_n S.1 S.2.1 dL_law_298 rfl (lv_at hl 3 rfl) ?_
  refine lv_iconst (v := 1) S.1 S.2.1 dL_law_299 (by decide) ?_
  refine lv_iadd S.1 S.2.1 dL_law_300 ?_
  refine va_sld S.1 S.2.1 hX hbl hbA hW.2.2 hi1 dL_law_301 ?_
  have hW := kw (w' := (wMa cs a (aT 0) (aS 0) (aD 0) (aG 0) (aR 0) (aE 0) μ ++ (wSc cs aS (aT 0) ς ++ (wTe cs aT τ ++ (wRo cs aE ε ++ (wGa cs aG (aD 0) (aR 0) γ Γ ++ (wDa cs aD dr δ ++ (wRo cs aR ρ))))))) ++ ((wMo cs aM σ Λ) ++ [])) (by rw [List.append_nil]) hW
  refine kV_i (As := [.int (xs (x3 + 1).toNatClampNeg)]) (rest := [.int r]) S hK hA (z := none) trivial ((wMa cs a (aT 0) (aS 0) (aD 0) (aG 0) (aR 0) (aE 0) μ ++ (wSc cs aS (aT 0) ς ++ (wTe cs aT τ ++ (wRo cs aE ε ++ (wGa cs aG (aD 0) (aR 0) γ Γ ++ (wDa cs aD dr δ ++ (wRo cs aR ρ)))))))) [] hW (cMo_kind l D cs aM σ Λ (xs (x3 + 1).toNatClampNeg) N hm) (ci := 6) rfl rfl lk_L_42 q828 q829 ⟨Nat.le_of_ble_eq_true rfl, Nat.le_of_ble_eq_true rfl⟩ rfl (Nat.le_of_ble_eq_true rfl) hl.1 dL_law_302 ⟨Nat.le_of_ble_eq_true rfl, Nat.le_of_ble_eq_true rfl⟩ (fun H locs hW => ?_)
  have hW : Wd D A s.heap ((wMa cs a (aT 0) (aS 0) (aD 0) (aG 0) (aR 0) (aE 0) μ ++ (wSc cs aS (aT 0) ς ++ (wTe cs aT τ ++ (wRo cs aE ε ++ (wGa cs aG (aD 0) (aR 0) γ Γ ++ (wDa cs aD dr δ ++ (wRo cs aR ρ))))))) ++ (wMo cs aM σ Λ)) H locs := kw (by rw [List.append_nil]) hW
  refine lv_icmp_eq (tgt := 967) S.1 S.2.1 dL_law_305 (by decide) (fun c9 => ?_) (fun c9 => ?_)
  · exact hk _ _ _ hW hl
  · exact absurd rfl c9
set_option maxHeartbeats 4000000 in
set_option maxRecDepth 100000 in
theorem wLaw_6z {p : Program} {l : Launch} {e : Env} {s : State} {m : MethodId} {args : Array Value} {below : List Frame} {meth : Method} {c : Code} {A : Nat → Prop} {Q : State → Prop} {D : va_G} {cs : Nat → ClassId} {fs a aS aT aE aG aD aR aM : Nat → Nat} {μ ς τ ε γ : St} {Γ : Nat → Int64} {δ ρ σ : St} {Λ : Nat → Int64} {dr b L N : Nat} {xs : Nat → Int32} {x3 : Int32} {r : Int32} {μ' : St} {σ' : St} (S : Fx p m c cL_law 4 s args RL) (hK : va_K D vwCl (tyL cs) s) (hA : ∀ x, s.heap.size ≤ x → A x) (hZ : Zf fs A s s.heap) (hX : va_X b L xs s s.heap) (hbl : b < s.heap.size) (hbA : ¬ A b) (hi1 : vp_in (x3 + 1) L) (hi2 : vp_in (x3 + 2) L) (hi3 : vp_in (x3 + 3) L) (hi4 : vp_in (x3 + 4) L) (hz : xs (x3 + 2).toNatClampNeg = 0) (hx : fMa_hold N (xs (x3 + 1).toNatClampNeg) (0 : Int32) ρ μ = some (r, μ')) (hm : fMo_hold N (xs (x3 + 1).toNatClampNeg) (0 : Int32) σ = some (r, σ')) (hk : ∀ (H : Heap) (locs : List Loc) (ls : Array Slot), Wd D A s.heap ((wMa cs a (aT 0) (aS 0) (aD 0) (aG 0) (aR 0) (aE 0) μ' ++ (wSc cs aS (aT 0) ς ++ (wTe cs aT τ ++ (wRo cs aE ε ++ (wGa cs aG (aD 0) (aR 0) γ Γ ++ (wDa cs aD dr δ ++ (wRo cs aR ρ))))))) ++ (wMo cs aM σ' Λ)) H locs → lv_has ls 4 [(0, .ref b), (1, .ref (a 0)), (2, .ref (aM 0)), (3, .int x3)] → W p l e room_1 s m args below meth c H locs 47 4456 Q (F0 m 967 ls [])) : ∀ (H : Heap) (locs : List Loc) (ls : Array Slot), Wd D A s.heap ((wMa cs a (aT 0) (aS 0) (aD 0) (aG 0) (aR 0) (aE 0) μ ++ (wSc cs aS (aT 0) ς ++ (wTe cs aT τ ++ (wRo cs aE ε ++ (wGa cs aG (aD 0) (aR 0) γ Γ ++ (wDa cs aD dr δ ++ (wRo cs aR ρ))))))) ++ (wMo cs aM σ Λ)) H locs → lv_has ls 4 [(0, .ref b), (1, .ref (a 0)), (2, .ref (aM 0)), (3, .int x3)] → W p l e room_1 s m args below meth c H locs 47 4456 Q (F0 m 310 ls []) := by
  intro H locs ls hW hl
  refine lv_aload_n S.1 S.2.1 dL_law_310 rfl (lv_at hl 1 rfl) ?_
  refine lv_aload_n S.1 S.2.1 dL_law_311 rfl (lv_at hl 0 rfl) ?_
  refine lv_iload_n S.1 S.2.1 dL_law_312 rfl (lv_at hl 3 rfl) ?_
  refine lv_iconst (v := 1) S.1 S.2.1 dL_law_313 (by decide) ?_
  refine lv_iadd S.1 S.2.1 dL_law_314 ?_
  refine va_sld S.1 S.2.1 hX hbl hbA hW.2.2 hi1 dL_law_315 ?_
  refine lv_aload_n S.1 S.2.1 dL_law_316 rfl (lv_at hl 0 rfl) ?_
  refine lv_iload_n S.1 S.2.1 dL_law_317 rfl (lv_at hl 3 rfl) ?_
  refine lv_iconst (v := 2) S.1 S.2.1 dL_law_318 (by decide) ?_
  refine lv_iadd S.1 S.2.1 dL_law_319 ?_
  refine va_sld S.1 S.2.1 hX hbl hbA hW.2.2 hi2 dL_law_320 ?_
  refine lv_if_eq (tgt := 328) S.1 S.2.1 dL_law_321 (by decide) (fun c1 => ?_) (fun c1 => ?_)
  rotate_left 1
  · exact absurd hz c1
  refine lv_iconst (v := 0) S.1 S.2.1 dL_law_328 (by decide) ?_
  refine kV_i (As := [.int (xs (x3 + 1).toNatClampNeg), .int (0 : Int32)]) (rest := []) S hK hA (z := none) trivial [] (wMo cs aM σ Λ) hW (cMa_hold l D cs a aS aT aE aG aD aR μ ς τ ε γ Γ δ ρ dr (xs (x3 + 1).toNatClampNeg) (0 : Int32) N hx) (ci := 5) rfl rfl lk_L_43 q390 q391 ⟨Nat.le_of_ble_eq_true rfl, Nat.le_of_ble_eq_true rfl⟩ rfl (Nat.le_of_ble_eq_true rfl) hl.1 dL_law_329 ⟨Nat.le_of_ble_eq_true rfl, Nat.le_of_ble_eq_true rfl⟩ (fun H locs hW => ?_)
  have hW : Wd D A s.heap ((wMa cs a (aT 0) (aS 0) (aD 0) (aG 0) (aR 0) (aE 0) μ' ++ (wSc cs aS (aT 0) ς ++ (wTe cs aT τ ++ (wRo cs aE ε ++ (wGa cs aG (aD 0) (aR 0) γ Γ ++ (wDa cs aD dr δ ++ (wRo cs aR ρ))))))) ++ (wMo cs aM σ Λ)) H locs := hW
  refine lv_aload_n S.1 S.2.1 dL_law_332 rfl (lv_at hl 2 rfl) ?_
  refine lv_aload_n S.1 S.2.1 dL_law_333 rfl (lv_at hl 0 rfl) ?_
  refine lv_iload_n S.1 S.2.1 dL_law_334 rfl (lv_at hl 3 rfl) ?_
  refine lv_iconst (v := 1) S.1 S.2.1 dL_law_335 (by decide) ?_
  refine lv_iadd S.1 S.2.1 dL_law_336 ?_
  refine va_sld S.1 S.2.1 hX hbl hbA hW.2.2 hi1 dL_law_337 ?_
  refine lv_aload_n S.1 S.2.1 dL_law_338 rfl (lv_at hl 0 rfl) ?_
  refine lv_iload_n S.1 S.2.1 dL_law_339 rfl (lv_at hl 3 rfl) ?_
  refine lv_iconst (v := 2) S.1 S.2.1 dL_law_340 (by decide) ?_
  refine lv_iadd S.1 S.2.1 dL_law_341 ?_
  refine va_sld S.1 S.2.1 hX hbl hbA hW.2.2 hi2 dL_law_342 ?_
  refine lv_if_eq (tgt := 350) S.1 S.2.1 dL_law_343 (by decide) (fun c1 => ?_) (fun c1 => ?_)
  rotate_left 1
  · exact absurd hz c1
  refine lv_iconst (v := 0) S.1 S.2.1 dL_law_350 (by decide) ?_
  have hW := kw (w' := (wMa cs a (aT 0) (aS 0) (aD 0) (aG 0) (aR 0) (aE 0) μ' ++ (wSc cs aS (aT 0) ς ++ (wTe cs aT τ ++ (wRo cs aE ε ++ (wGa cs aG (aD 0) (aR 0) γ Γ ++ (wDa cs aD dr δ ++ (wRo cs aR ρ))))))) ++ ((wMo cs aM σ Λ) ++ [])) (by rw [List.append_nil]) hW
  refine kV_i (As := [.int (xs (x3 + 1).toNatClampNeg), .int (0 : Int32)]) (rest := [.int r]) S hK hA (z := none) trivial ((wMa cs a (aT 0) (aS 0) (aD 0) (aG 0) (aR 0) (aE 0) μ' ++ (wSc cs aS (aT 0) ς ++ (wTe cs aT τ ++ (wRo cs aE ε ++ (wGa cs aG (aD 0) (aR 0) γ Γ ++ (wDa cs aD dr δ ++ (wRo cs aR ρ)))))))) [] hW (cMo_hold l D cs aM σ Λ (xs (x3 + 1).toNatClampNeg) (0 : Int32) N hm) (ci := 6) rfl rfl lk_L_47 q832 q833 ⟨Nat.le_of_ble_eq_true rfl, Nat.le_of_ble_eq_true rfl⟩ rfl (Nat.le_of_ble_eq_true rfl) hl.1 dL_law_351 ⟨Nat.le_of_ble_eq_true rfl, Nat.le_of_ble_eq_true rfl⟩ (fun H locs hW => ?_)
  have hW : Wd D A s.heap ((wMa cs a (aT 0) (aS 0) (aD 0) (aG 0) (aR 0) (aE 0) μ' ++ (wSc cs aS (aT 0) ς ++ (wTe cs aT τ ++ (wRo cs aE ε ++ (wGa cs aG (aD 0) (aR 0) γ Γ ++ (wDa cs aD dr δ ++ (wRo cs aR ρ))))))) ++ (wMo cs aM σ' Λ)) H locs := kw (by rw [List.append_nil]) hW
  refine lv_icmp_eq (tgt := 967) S.1 S.2.1 dL_law_354 (by decide) (fun c9 => ?_) (fun c9 => ?_)
  · exact hk _ _ _ hW hl
  · exact absurd rfl c9
set_option maxHeartbeats 4000000 in
set_option maxRecDepth 100000 in
theorem wLaw_6o {p : Program} {l : Launch} {e : Env} {s : State} {m : MethodId} {args : Array Value} {below : List Frame} {meth : Method} {c : Code} {A : Nat → Prop} {Q : State → Prop} {D : va_G} {cs : Nat → ClassId} {fs a aS aT aE aG aD aR aM : Nat → Nat} {μ ς τ ε γ : St} {Γ : Nat → Int64} {δ ρ σ : St} {Λ : Nat → Int64} {dr b L N : Nat} {xs : Nat → Int32} {x3 : Int32} {r : Int32} {μ' : St} {σ' : St} (S : Fx p m c cL_law 4 s args RL) (hK : va_K D vwCl (tyL cs) s) (hA : ∀ x, s.heap.size ≤ x → A x) (hZ : Zf fs A s s.heap) (hX : va_X b L xs s s.heap) (hbl : b < s.heap.size) (hbA : ¬ A b) (hi1 : vp_in (x3 + 1) L) (hi2 : vp_in (x3 + 2) L) (hi3 : vp_in (x3 + 3) L) (hi4 : vp_in (x3 + 4) L) (hz : ¬ xs (x3 + 2).toNatClampNeg = 0) (hx : fMa_hold N (xs (x3 + 1).toNatClampNeg) (1 : Int32) ρ μ = some (r, μ')) (hm : fMo_hold N (xs (x3 + 1).toNatClampNeg) (1 : Int32) σ = some (r, σ')) (hk : ∀ (H : Heap) (locs : List Loc) (ls : Array Slot), Wd D A s.heap ((wMa cs a (aT 0) (aS 0) (aD 0) (aG 0) (aR 0) (aE 0) μ' ++ (wSc cs aS (aT 0) ς ++ (wTe cs aT τ ++ (wRo cs aE ε ++ (wGa cs aG (aD 0) (aR 0) γ Γ ++ (wDa cs aD dr δ ++ (wRo cs aR ρ))))))) ++ (wMo cs aM σ' Λ)) H locs → lv_has ls 4 [(0, .ref b), (1, .ref (a 0)), (2, .ref (aM 0)), (3, .int x3)] → W p l e room_1 s m args below meth c H locs 47 4456 Q (F0 m 967 ls [])) : ∀ (H : Heap) (locs : List Loc) (ls : Array Slot), Wd D A s.heap ((wMa cs a (aT 0) (aS 0) (aD 0) (aG 0) (aR 0) (aE 0) μ ++ (wSc cs aS (aT 0) ς ++ (wTe cs aT τ ++ (wRo cs aE ε ++ (wGa cs aG (aD 0) (aR 0) γ Γ ++ (wDa cs aD dr δ ++ (wRo cs aR ρ))))))) ++ (wMo cs aM σ Λ)) H locs → lv_has ls 4 [(0, .ref b), (1, .ref (a 0)), (2, .ref (aM 0)), (3, .int x3)] → W p l e room_1 s m args below meth c H locs 47 4456 Q (F0 m 310 ls []) := by
  intro H locs ls hW hl
  refine lv_aload_n S.1 S.2.1 dL_law_310 rfl (lv_at hl 1 rfl) ?_
  refine lv_aload_n S.1 S.2.1 dL_law_311 rfl (lv_at hl 0 rfl) ?_
  refine lv_iload_n S.1 S.2.1 dL_law_312 rfl (lv_at hl 3 rfl) ?_
  refine lv_iconst (v := 1) S.1 S.2.1 dL_law_313 (by decide) ?_
  refine lv_iadd S.1 S.2.1 dL_law_314 ?_
  refine va_sld S.1 S.2.1 hX hbl hbA hW.2.2 hi1 dL_law_315 ?_
  refine lv_aload_n S.1 S.2.1 dL_law_316 rfl (lv_at hl 0 rfl) ?_
  refine lv_iload_n S.1 S.2.1 dL_law_317 rfl (lv_at hl 3 rfl) ?_
  refine lv_iconst (v := 2) S.1 S.2.1 dL_law_318 (by decide) ?_
  refine lv_iadd S.1 S.2.1 dL_law_319 ?_
  refine va_sld S.1 S.2.1 hX hbl hbA hW.2.2 hi2 dL_law_320 ?_
  refine lv_if_eq (tgt := 328) S.1 S.2.1 dL_law_321 (by decide) (fun c1 => ?_) (fun c1 => ?_)
  · exact absurd c1 hz
  refine lv_iconst (v := 1) S.1 S.2.1 dL_law_324 (by decide) ?_
  refine lv_goto (tgt := 329) S.1 S.2.1 dL_law_325 (by decide) ?_
  refine kV_i (As := [.int (xs (x3 + 1).toNatClampNeg), .int (1 : Int32)]) (rest := []) S hK hA (z := none) trivial [] (wMo cs aM σ Λ) hW (cMa_hold l D cs a aS aT aE aG aD aR μ ς τ ε γ Γ δ ρ dr (xs (x3 + 1).toNatClampNeg) (1 : Int32) N hx) (ci := 5) rfl rfl lk_L_43 q390 q391 ⟨Nat.le_of_ble_eq_true rfl, Nat.le_of_ble_eq_true rfl⟩ rfl (Nat.le_of_ble_eq_true rfl) hl.1 dL_law_329 ⟨Nat.le_of_ble_eq_true rfl, Nat.le_of_ble_eq_true rfl⟩ (fun H locs hW => ?_)
  have hW : Wd D A s.heap ((wMa cs a (aT 0) (aS 0) (aD 0) (aG 0) (aR 0) (aE 0) μ' ++ (wSc cs aS (aT 0) ς ++ (wTe cs aT τ ++ (wRo cs aE ε ++ (wGa cs aG (aD 0) (aR 0) γ Γ ++ (wDa cs aD dr δ ++ (wRo cs aR ρ))))))) ++ (wMo cs aM σ Λ)) H locs := hW
  refine lv_aload_n S.1 S.2.1 dL_law_332 rfl (lv_at hl 2 rfl) ?_
  refine lv_aload_n S.1 S.2.1 dL_law_333 rfl (lv_at hl 0 rfl) ?_
  refine lv_iload_n S.1 S.2.1 dL_law_334 rfl (lv_at hl 3 rfl) ?_
  refine lv_iconst (v := 1) S.1 S.2.1 dL_law_335 (by decide) ?_
  refine lv_iadd S.1 S.2.1 dL_law_336 ?_
  refine va_sld S.1 S.2.1 hX hbl hbA hW.2.2 hi1 dL_law_337 ?_
  refine lv_aload_n S.1 S.2.1 dL_law_338 rfl (lv_at hl 0 rfl) ?_
  refine lv_iload_n S.1 S.2.1 dL_law_339 rfl (lv_at hl 3 rfl) ?_
  refine lv_iconst (v := 2) S.1 S.2.1 dL_law_340 (by decide) ?_
  refine lv_iadd S.1 S.2.1 dL_law_341 ?_
  refine va_sld S.1 S.2.1 hX hbl hbA hW.2.2 hi2 dL_law_342 ?_
  refine lv_if_eq (tgt := 350) S.1 S.2.1 dL_law_343 (by decide) (fun c1 => ?_) (fun c1 => ?_)
  · exact absurd c1 hz
  refine lv_iconst (v := 1) S.1 S.2.1 dL_law_346 (by decide) ?_
  refine lv_goto (tgt := 351) S.1 S.2.1 dL_law_347 (by decide) ?_
  have hW := kw (w' := (wMa cs a (aT 0) (aS 0) (aD 0) (aG 0) (aR 0) (aE 0) μ' ++ (wSc cs aS (aT 0) ς ++ (wTe cs aT τ ++ (wRo cs aE ε ++ (wGa cs aG (aD 0) (aR 0) γ Γ ++ (wDa cs aD dr δ ++ (wRo cs aR ρ))))))) ++ ((wMo cs aM σ Λ) ++ [])) (by rw [List.append_nil]) hW
  refine kV_i (As := [.int (xs (x3 + 1).toNatClampNeg), .int (1 : Int32)]) (rest := [.int r]) S hK hA (z := none) trivial ((wMa cs a (aT 0) (aS 0) (aD 0) (aG 0) (aR 0) (aE 0) μ' ++ (wSc cs aS (aT 0) ς ++ (wTe cs aT τ ++ (wRo cs aE ε ++ (wGa cs aG (aD 0) (aR 0) γ Γ ++ (wDa cs aD dr δ ++ (wRo cs aR ρ)))))))) [] hW (cMo_hold l D cs aM σ Λ (xs (x3 + 1).toNatClampNeg) (1 : Int32) N hm) (ci := 6) rfl rfl lk_L_47 q832 q833 ⟨Nat.le_of_ble_eq_true rfl, Nat.le_of_ble_eq_true rfl⟩ rfl (Nat.le_of_ble_eq_true rfl) hl.1 dL_law_351 ⟨Nat.le_of_ble_eq_true rfl, Nat.le_of_ble_eq_true rfl⟩ (fun H locs hW => ?_)
  have hW : Wd D A s.heap ((wMa cs a (aT 0) (aS 0) (aD 0) (aG 0) (aR 0) (aE 0) μ' ++ (wSc cs aS (aT 0) ς ++ (wTe cs aT τ ++ (wRo cs aE ε ++ (wGa cs aG (aD 0) (aR 0) γ Γ ++ (wDa cs aD dr δ ++ (wRo cs aR ρ))))))) ++ (wMo cs aM σ' Λ)) H locs := kw (by rw [List.append_nil]) hW
  refine lv_icmp_eq (tgt := 967) S.1 S.2.1 dL_law_354 (by decide) (fun c9 => ?_) (fun c9 => ?_)
  · exact hk _ _ _ hW hl
  · exact absurd rfl c9
set_option maxHeartbeats 4000000 in
set_option maxRecDepth 100000 in
theorem wLaw_7 {p : Program} {l : Launch} {e : Env} {s : State} {m : MethodId} {args : Array Value} {below : List Frame} {meth : Method} {c : Code} {A : Nat → Prop} {Q : State → Prop} {D : va_G} {cs : Nat → ClassId} {fs a aS aT aE aG aD aR aM : Nat → Nat} {μ ς τ ε γ : St} {Γ : Nat → Int64} {δ ρ σ : St} {Λ : Nat → Int64} {dr b L N : Nat} {xs : Nat → Int32} {x3 : Int32} {r : Int32} {δ' : St} {dr' : Nat} {σ' : St} (S : Fx p m c cL_law 4 s args RL) (hK : va_K D vwCl (tyL cs) s) (hA : ∀ x, s.heap.size ≤ x → A x) (hZ : Zf fs A s s.heap) (hX : va_X b L xs s s.heap) (hbl : b < s.heap.size) (hbA : ¬ A b) (hi1 : vp_in (x3 + 1) L) (hi2 : vp_in (x3 + 2) L) (hi3 : vp_in (x3 + 3) L) (hi4 : vp_in (x3 + 4) L) (hx : fMa_seat N (xs (x3 + 1).toNatClampNeg) (xs (x3 + 2).toNatClampNeg) (xs (x3 + 3).toNatClampNeg) (xs (x3 + 4).toNatClampNeg) μ ρ (aR 0) δ dr = some (r, δ', dr')) (hm : fMo_seat N (xs (x3 + 1).toNatClampNeg) (xs (x3 + 2).toNatClampNeg) (xs (x3 + 3).toNatClampNeg) (xs (x3 + 4).toNatClampNeg) σ = some (r, σ')) (hk : ∀ (H : Heap) (locs : List Loc) (ls : Array Slot), Wd D A s.heap ((wMa cs a (aT 0) (aS 0) (aD 0) (aG 0) (aR 0) (aE 0) μ ++ (wSc cs aS (aT 0) ς ++ (wTe cs aT τ ++ (wRo cs aE ε ++ (wGa cs aG (aD 0) (aR 0) γ Γ ++ (wDa cs aD dr' δ' ++ (wRo cs aR ρ))))))) ++ (wMo cs aM σ' Λ)) H locs → lv_has ls 4 [(0, .ref b), (1, .ref (a 0)), (2, .ref (aM 0)), (3, .int x3)] → W p l e room_1 s m args below meth c H locs 47 4456 Q (F0 m 967 ls [])) : ∀ (H : Heap) (locs : List Loc) (ls : Array Slot), Wd D A s.heap ((wMa cs a (aT 0) (aS 0) (aD 0) (aG 0) (aR 0) (aE 0) μ ++ (wSc cs aS (aT 0) ς ++ (wTe cs aT τ ++ (wRo cs aE ε ++ (wGa cs aG (aD 0) (aR 0) γ Γ ++ (wDa cs aD dr δ ++ (wRo cs aR ρ))))))) ++ (wMo cs aM σ Λ)) H locs → lv_has ls 4 [(0, .ref b), (1, .ref (a 0)), (2, .ref (aM 0)), (3, .int x3)] → W p l e room_1 s m args below meth c H locs 47 4456 Q (F0 m 359 ls []) := by
  intro H locs ls hW hl
  refine lv_aload_n S.1 S.2.1 dL_law_359 rfl (lv_at hl 1 rfl) ?_
  refine lv_aload_n S.1 S.2.1 dL_law_360 rfl (lv_at hl 0 rfl) ?_
  refine lv_iload_n S.1 S.2.1 dL_law_361 rfl (lv_at hl 3 rfl) ?_
  refine lv_iconst (v := 1) S.1 S.2.1 dL_law_362 (by decide) ?_
  refine lv_iadd S.1 S.2.1 dL_law_363 ?_
  refine va_sld S.1 S.2.1 hX hbl hbA hW.2.2 hi1 dL_law_364 ?_
  refine lv_aload_n S.1 S.2.1 dL_law_365 rfl (lv_at hl 0 rfl) ?_
  refine lv_iload_n S.1 S.2.1 dL_law_366 rfl (lv_at hl 3 rfl) ?_
  refine lv_iconst (v := 2) S.1 S.2.1 dL_law_367 (by decide) ?_
  refine lv_iadd S.1 S.2.1 dL_law_368 ?_
  refine va_sld S.1 S.2.1 hX hbl hbA hW.2.2 hi2 dL_law_369 ?_
  refine lv_aload_n S.1 S.2.1 dL_law_370 rfl (lv_at hl 0 rfl) ?_
  refine lv_iload_n S.1 S.2.1 dL_law_371 rfl (lv_at hl 3 rfl) ?_
  refine lv_iconst (v := 3) S.1 S.2.1 dL_law_372 (by decide) ?_
  refine lv_iadd S.1 S.2.1 dL_law_373 ?_
  refine va_sld S.1 S.2.1 hX hbl hbA hW.2.2 hi3 dL_law_374 ?_
  refine lv_aload_n S.1 S.2.1 dL_law_375 rfl (lv_at hl 0 rfl) ?_
  refine lv_iload_n S.1 S.2.1 dL_law_376 rfl (lv_at hl 3 rfl) ?_
  refine lv_iconst (v := 4) S.1 S.2.1 dL_law_377 (by decide) ?_
  refine lv_iadd S.1 S.2.1 dL_law_378 ?_
  refine va_sld S.1 S.2.1 hX hbl hbA hW.2.2 hi4 dL_law_379 ?_
  refine kV_i (As := [.int (xs (x3 + 1).toNatClampNeg), .int (xs (x3 + 2).toNatClampNeg), .int (xs (x3 + 3).toNatClampNeg), .int (xs (x3 + 4).toNatClampNeg)]) (rest := []) S hK hA (z := none) trivial [] (wMo cs aM σ Λ) hW (cMa_seat l D cs a aS aT aE aG aD aR μ ς τ ε γ Γ δ ρ dr (xs (x3 + 1).toNatClampNeg) (xs (x3 + 2).toNatClampNeg) (xs (x3 + 3).toNatClampNeg) (xs (x3 + 4).toNatClampNeg) N hx) (ci := 5) rfl rfl lk_L_48 q394 q395 ⟨Nat.le_of_ble_eq_true rfl, Nat.le_of_ble_eq_true rfl⟩ rfl (Nat.le_of_ble_eq_true rfl) hl.1 dL_law_380 ⟨Nat.le_of_ble_eq_true rfl, Nat.le_of_ble_eq_true rfl⟩ (fun H locs hW => ?_)
  have hW : Wd D A s.heap ((wMa cs a (aT 0) (aS 0) (aD 0) (aG 0) (aR 0) (aE 0) μ ++ (wSc cs aS (aT 0) ς ++ (wTe cs aT τ ++ (wRo cs aE ε ++ (wGa cs aG (aD 0) (aR 0) γ Γ ++ (wDa cs aD dr' δ' ++ (wRo cs aR ρ))))))) ++ (wMo cs aM σ Λ)) H locs := hW
  refine lv_aload_n S.1 S.2.1 dL_law_383 rfl (lv_at hl 2 rfl) ?_
  refine lv_aload_n S.1 S.2.1 dL_law_384 rfl (lv_at hl 0 rfl) ?_
  refine lv_iload_n S.1 S.2.1 dL_law_385 rfl (lv_at hl 3 rfl) ?_
  refine lv_iconst (v := 1) S.1 S.2.1 dL_law_386 (by decide) ?_
  refine lv_iadd S.1 S.2.1 dL_law_387 ?_
  refine va_sld S.1 S.2.1 hX hbl hbA hW.2.2 hi1 dL_law_388 ?_
  refine lv_aload_n S.1 S.2.1 dL_law_389 rfl (lv_at hl 0 rfl) ?_
  refine lv_iload_n S.1 S.2.1 dL_law_390 rfl (lv_at hl 3 rfl) ?_
  refine lv_iconst (v := 2) S.1 S.2.1 dL_law_391 (by decide) ?_
  refine lv_iadd S.1 S.2.1 dL_law_392 ?_
  refine va_sld S.1 S.2.1 hX hbl hbA hW.2.2 hi2 dL_law_393 ?_
  refine lv_aload_n S.1 S.2.1 dL_law_394 rfl (lv_at hl 0 rfl) ?_
  refine lv_iload_n S.1 S.2.1 dL_law_395 rfl (lv_at hl 3 rfl) ?_
  refine lv_iconst (v := 3) S.1 S.2.1 dL_law_396 (by decide) ?_
  refine lv_iadd S.1 S.2.1 dL_law_397 ?_
  refine va_sld S.1 S.2.1 hX hbl hbA hW.2.2 hi3 dL_law_398 ?_
  refine lv_aload_n S.1 S.2.1 dL_law_399 rfl (lv_at hl 0 rfl) ?_
  refine lv_iload_n S.1 S.2.1 dL_law_400 rfl (lv_at hl 3 rfl) ?_
  refine lv_iconst (v := 4) S.1 S.2.1 dL_law_401 (by decide) ?_
  refine lv_iadd S.1 S.2.1 dL_law_402 ?_
  refine va_sld S.1 S.2.1 hX hbl hbA hW.2.2 hi4 dL_law_403 ?_
  have hW := kw (w' := (wMa cs a (aT 0) (aS 0) (aD 0) (aG 0) (aR 0) (aE 0) μ ++ (wSc cs aS (aT 0) ς ++ (wTe cs aT τ ++ (wRo cs aE ε ++ (wGa cs aG (aD 0) (aR 0) γ Γ ++ (wDa cs aD dr' δ' ++ (wRo cs aR ρ))))))) ++ ((wMo cs aM σ Λ) ++ [])) (by rw [List.append_nil]) hW
  refine kV_i (As := [.int (xs (x3 + 1).toNatClampNeg), .int (xs (x3 + 2).toNatClampNeg), .int (xs (x3 + 3).toNatClampNeg), .int (xs (x3 + 4).toNatClampNeg)]) (rest := [.int r]) S hK hA (z := none) trivial ((wMa cs a (aT 0) (aS 0) (aD 0) (aG 0) (aR 0) (aE 0) μ ++ (wSc cs aS (aT 0) ς ++ (wTe cs aT τ ++ (wRo cs aE ε ++ (wGa cs aG (aD 0) (aR 0) γ Γ ++ (wDa cs aD dr' δ' ++ (wRo cs aR ρ)))))))) [] hW (cMo_seat l D cs aM σ Λ (xs (x3 + 1).toNatClampNeg) (xs (x3 + 2).toNatClampNeg) (xs (x3 + 3).toNatClampNeg) (xs (x3 + 4).toNatClampNeg) N hm) (ci := 6) rfl rfl lk_L_52 q836 q837 ⟨Nat.le_of_ble_eq_true rfl, Nat.le_of_ble_eq_true rfl⟩ rfl (Nat.le_of_ble_eq_true rfl) hl.1 dL_law_404 ⟨Nat.le_of_ble_eq_true rfl, Nat.le_of_ble_eq_true rfl⟩ (fun H locs hW => ?_)
  have hW : Wd D A s.heap ((wMa cs a (aT 0) (aS 0) (aD 0) (aG 0) (aR 0) (aE 0) μ ++ (wSc cs aS (aT 0) ς ++ (wTe cs aT τ ++ (wRo cs aE ε ++ (wGa cs aG (aD 0) (aR 0) γ Γ ++ (wDa cs aD dr' δ' ++ (wRo cs aR ρ))))))) ++ (wMo cs aM σ' Λ)) H locs := kw (by rw [List.append_nil]) hW
  refine lv_icmp_eq (tgt := 967) S.1 S.2.1 dL_law_407 (by decide) (fun c9 => ?_) (fun c9 => ?_)
  · exact hk _ _ _ hW hl
  · exact absurd rfl c9
set_option maxHeartbeats 4000000 in
set_option maxRecDepth 100000 in
theorem wLaw_8 {p : Program} {l : Launch} {e : Env} {s : State} {m : MethodId} {args : Array Value} {below : List Frame} {meth : Method} {c : Code} {A : Nat → Prop} {Q : State → Prop} {D : va_G} {cs : Nat → ClassId} {fs a aS aT aE aG aD aR aM : Nat → Nat} {μ ς τ ε γ : St} {Γ : Nat → Int64} {δ ρ σ : St} {Λ : Nat → Int64} {dr b L N : Nat} {xs : Nat → Int32} {x3 : Int32} {r : Int32} {δ' : St} {dr' : Nat} {σ' : St} (S : Fx p m c cL_law 4 s args RL) (hK : va_K D vwCl (tyL cs) s) (hA : ∀ x, s.heap.size ≤ x → A x) (hZ : Zf fs A s s.heap) (hX : va_X b L xs s s.heap) (hbl : b < s.heap.size) (hbA : ¬ A b) (hi1 : vp_in (x3 + 1) L) (hi2 : vp_in (x3 + 2) L) (hi3 : vp_in (x3 + 3) L) (hi4 : vp_in (x3 + 4) L) (hx : fMa_does N (xs (x3 + 1).toNatClampNeg) (xs (x3 + 2).toNatClampNeg) (xs (x3 + 3).toNatClampNeg) μ ρ (aR 0) δ dr = some (r, δ', dr')) (hm : fMo_does N (xs (x3 + 1).toNatClampNeg) (xs (x3 + 2).toNatClampNeg) (xs (x3 + 3).toNatClampNeg) σ = some (r, σ')) (hk : ∀ (H : Heap) (locs : List Loc) (ls : Array Slot), Wd D A s.heap ((wMa cs a (aT 0) (aS 0) (aD 0) (aG 0) (aR 0) (aE 0) μ ++ (wSc cs aS (aT 0) ς ++ (wTe cs aT τ ++ (wRo cs aE ε ++ (wGa cs aG (aD 0) (aR 0) γ Γ ++ (wDa cs aD dr' δ' ++ (wRo cs aR ρ))))))) ++ (wMo cs aM σ' Λ)) H locs → lv_has ls 4 [(0, .ref b), (1, .ref (a 0)), (2, .ref (aM 0)), (3, .int x3)] → W p l e room_1 s m args below meth c H locs 47 4456 Q (F0 m 967 ls [])) : ∀ (H : Heap) (locs : List Loc) (ls : Array Slot), Wd D A s.heap ((wMa cs a (aT 0) (aS 0) (aD 0) (aG 0) (aR 0) (aE 0) μ ++ (wSc cs aS (aT 0) ς ++ (wTe cs aT τ ++ (wRo cs aE ε ++ (wGa cs aG (aD 0) (aR 0) γ Γ ++ (wDa cs aD dr δ ++ (wRo cs aR ρ))))))) ++ (wMo cs aM σ Λ)) H locs → lv_has ls 4 [(0, .ref b), (1, .ref (a 0)), (2, .ref (aM 0)), (3, .int x3)] → W p l e room_1 s m args below meth c H locs 47 4456 Q (F0 m 412 ls []) := by
  intro H locs ls hW hl
  refine lv_aload_n S.1 S.2.1 dL_law_412 rfl (lv_at hl 1 rfl) ?_
  refine lv_aload_n S.1 S.2.1 dL_law_413 rfl (lv_at hl 0 rfl) ?_
  refine lv_iload_n S.1 S.2.1 dL_law_414 rfl (lv_at hl 3 rfl) ?_
  refine lv_iconst (v := 1) S.1 S.2.1 dL_law_415 (by decide) ?_
  refine lv_iadd S.1 S.2.1 dL_law_416 ?_
  refine va_sld S.1 S.2.1 hX hbl hbA hW.2.2 hi1 dL_law_417 ?_
  refine lv_aload_n S.1 S.2.1 dL_law_418 rfl (lv_at hl 0 rfl) ?_
  refine lv_iload_n S.1 S.2.1 dL_law_419 rfl (lv_at hl 3 rfl) ?_
  refine lv_iconst (v := 2) S.1 S.2.1 dL_law_420 (by decide) ?_
  refine lv_iadd S.1 S.2.1 dL_law_421 ?_
  refine va_sld S.1 S.2.1 hX hbl hbA hW.2.2 hi2 dL_law_422 ?_
  refine lv_aload_n S.1 S.2.1 dL_law_423 rfl (lv_at hl 0 rfl) ?_
  refine lv_iload_n S.1 S.2.1 dL_law_424 rfl (lv_at hl 3 rfl) ?_
  refine lv_iconst (v := 3) S.1 S.2.1 dL_law_425 (by decide) ?_
  refine lv_iadd S.1 S.2.1 dL_law_426 ?_
  refine va_sld S.1 S.2.1 hX hbl hbA hW.2.2 hi3 dL_law_427 ?_
  refine kV_i (As := [.int (xs (x3 + 1).toNatClampNeg), .int (xs (x3 + 2).toNatClampNeg), .int (xs (x3 + 3).toNatClampNeg)]) (rest := []) S hK hA (z := none) trivial [] (wMo cs aM σ Λ) hW (cMa_does l D cs a aS aT aE aG aD aR μ ς τ ε γ Γ δ ρ dr (xs (x3 + 1).toNatClampNeg) (xs (x3 + 2).toNatClampNeg) (xs (x3 + 3).toNatClampNeg) N hx) (ci := 5) rfl rfl lk_L_53 q490 q491 ⟨Nat.le_of_ble_eq_true rfl, Nat.le_of_ble_eq_true rfl⟩ rfl (Nat.le_of_ble_eq_true rfl) hl.1 dL_law_428 ⟨Nat.le_of_ble_eq_true rfl, Nat.le_of_ble_eq_true rfl⟩ (fun H locs hW => ?_)
  have hW : Wd D A s.heap ((wMa cs a (aT 0) (aS 0) (aD 0) (aG 0) (aR 0) (aE 0) μ ++ (wSc cs aS (aT 0) ς ++ (wTe cs aT τ ++ (wRo cs aE ε ++ (wGa cs aG (aD 0) (aR 0) γ Γ ++ (wDa cs aD dr' δ' ++ (wRo cs aR ρ))))))) ++ (wMo cs aM σ Λ)) H locs := hW
  refine lv_aload_n S.1 S.2.1 dL_law_431 rfl (lv_at hl 2 rfl) ?_
  refine lv_aload_n S.1 S.2.1 dL_law_432 rfl (lv_at hl 0 rfl) ?_
  refine lv_iload_n S.1 S.2.1 dL_law_433 rfl (lv_at hl 3 rfl) ?_
  refine lv_iconst (v := 1) S.1 S.2.1 dL_law_434 (by decide) ?_
  refine lv_iadd S.1 S.2.1 dL_law_435 ?_
  refine va_sld S.1 S.2.1 hX hbl hbA hW.2.2 hi1 dL_law_436 ?_
  refine lv_aload_n S.1 S.2.1 dL_law_437 rfl (lv_at hl 0 rfl) ?_
  refine lv_iload_n S.1 S.2.1 dL_law_438 rfl (lv_at hl 3 rfl) ?_
  refine lv_iconst (v := 2) S.1 S.2.1 dL_law_439 (by decide) ?_
  refine lv_iadd S.1 S.2.1 dL_law_440 ?_
  refine va_sld S.1 S.2.1 hX hbl hbA hW.2.2 hi2 dL_law_441 ?_
  refine lv_aload_n S.1 S.2.1 dL_law_442 rfl (lv_at hl 0 rfl) ?_
  refine lv_iload_n S.1 S.2.1 dL_law_443 rfl (lv_at hl 3 rfl) ?_
  refine lv_iconst (v := 3) S.1 S.2.1 dL_law_444 (by decide) ?_
  refine lv_iadd S.1 S.2.1 dL_law_445 ?_
  refine va_sld S.1 S.2.1 hX hbl hbA hW.2.2 hi3 dL_law_446 ?_
  have hW := kw (w' := (wMa cs a (aT 0) (aS 0) (aD 0) (aG 0) (aR 0) (aE 0) μ ++ (wSc cs aS (aT 0) ς ++ (wTe cs aT τ ++ (wRo cs aE ε ++ (wGa cs aG (aD 0) (aR 0) γ Γ ++ (wDa cs aD dr' δ' ++ (wRo cs aR ρ))))))) ++ ((wMo cs aM σ Λ) ++ [])) (by rw [List.append_nil]) hW
  refine kV_i (As := [.int (xs (x3 + 1).toNatClampNeg), .int (xs (x3 + 2).toNatClampNeg), .int (xs (x3 + 3).toNatClampNeg)]) (rest := [.int r]) S hK hA (z := none) trivial ((wMa cs a (aT 0) (aS 0) (aD 0) (aG 0) (aR 0) (aE 0) μ ++ (wSc cs aS (aT 0) ς ++ (wTe cs aT τ ++ (wRo cs aE ε ++ (wGa cs aG (aD 0) (aR 0) γ Γ ++ (wDa cs aD dr' δ' ++ (wRo cs aR ρ)))))))) [] hW (cMo_does l D cs aM σ Λ (xs (x3 + 1).toNatClampNeg) (xs (x3 + 2).toNatClampNeg) (xs (x3 + 3).toNatClampNeg) N hm) (ci := 6) rfl rfl lk_L_57 q883 q884 ⟨Nat.le_of_ble_eq_true rfl, Nat.le_of_ble_eq_true rfl⟩ rfl (Nat.le_of_ble_eq_true rfl) hl.1 dL_law_447 ⟨Nat.le_of_ble_eq_true rfl, Nat.le_of_ble_eq_true rfl⟩ (fun H locs hW => ?_)
  have hW : Wd D A s.heap ((wMa cs a (aT 0) (aS 0) (aD 0) (aG 0) (aR 0) (aE 0) μ ++ (wSc cs aS (aT 0) ς ++ (wTe cs aT τ ++ (wRo cs aE ε ++ (wGa cs aG (aD 0) (aR 0) γ Γ ++ (wDa cs aD dr' δ' ++ (wRo cs aR ρ))))))) ++ (wMo cs aM σ' Λ)) H locs := kw (by rw [List.append_nil]) hW
  refine lv_icmp_eq (tgt := 967) S.1 S.2.1 dL_law_450 (by decide) (fun c9 => ?_) (fun c9 => ?_)
  · exact hk _ _ _ hW hl
  · exact absurd rfl c9
set_option maxHeartbeats 4000000 in
set_option maxRecDepth 100000 in
theorem wLaw_9 {p : Program} {l : Launch} {e : Env} {s : State} {m : MethodId} {args : Array Value} {below : List Frame} {meth : Method} {c : Code} {A : Nat → Prop} {Q : State → Prop} {D : va_G} {cs : Nat → ClassId} {fs a aS aT aE aG aD aR aM : Nat → Nat} {μ ς τ ε γ : St} {Γ : Nat → Int64} {δ ρ σ : St} {Λ : Nat → Int64} {dr b L N : Nat} {xs : Nat → Int32} {x3 : Int32} {r : Int32} {δ' : St} {dr' : Nat} {σ' : St} (S : Fx p m c cL_law 4 s args RL) (hK : va_K D vwCl (tyL cs) s) (hA : ∀ x, s.heap.size ≤ x → A x) (hZ : Zf fs A s s.heap) (hX : va_X b L xs s s.heap) (hbl : b < s.heap.size) (hbA : ¬ A b) (hi1 : vp_in (x3 + 1) L) (hi2 : vp_in (x3 + 2) L) (hi3 : vp_in (x3 + 3) L) (hi4 : vp_in (x3 + 4) L) (hx : fMa_day N (xs (x3 + 1).toNatClampNeg) (xs (x3 + 2).toNatClampNeg) μ ρ (aR 0) δ dr = some (r, δ', dr')) (hm : fMo_day N (xs (x3 + 1).toNatClampNeg) (xs (x3 + 2).toNatClampNeg) σ = some (r, σ')) (hk : ∀ (H : Heap) (locs : List Loc) (ls : Array Slot), Wd D A s.heap ((wMa cs a (aT 0) (aS 0) (aD 0) (aG 0) (aR 0) (aE 0) μ ++ (wSc cs aS (aT 0) ς ++ (wTe cs aT τ ++ (wRo cs aE ε ++ (wGa cs aG (aD 0) (aR 0) γ Γ ++ (wDa cs aD dr' δ' ++ (wRo cs aR ρ))))))) ++ (wMo cs aM σ' Λ)) H locs → lv_has ls 4 [(0, .ref b), (1, .ref (a 0)), (2, .ref (aM 0)), (3, .int x3)] → W p l e room_1 s m args below meth c H locs 47 4456 Q (F0 m 967 ls [])) : ∀ (H : Heap) (locs : List Loc) (ls : Array Slot), Wd D A s.heap ((wMa cs a (aT 0) (aS 0) (aD 0) (aG 0) (aR 0) (aE 0) μ ++ (wSc cs aS (aT 0) ς ++ (wTe cs aT τ ++ (wRo cs aE ε ++ (wGa cs aG (aD 0) (aR 0) γ Γ ++ (wDa cs aD dr δ ++ (wRo cs aR ρ))))))) ++ (wMo cs aM σ Λ)) H locs → lv_has ls 4 [(0, .ref b), (1, .ref (a 0)), (2, .ref (aM 0)), (3, .int x3)] → W p l e room_1 s m args below meth c H locs 47 4456 Q (F0 m 455 ls []) := by
  intro H locs ls hW hl
  refine lv_aload_n S.1 S.2.1 dL_law_455 rfl (lv_at hl 1 rfl) ?_
  refine lv_aload_n S.1 S.2.1 dL_law_456 rfl (lv_at hl 0 rfl) ?_
  refine lv_iload_n S.1 S.2.1 dL_law_457 rfl (lv_at hl 3 rfl) ?_
  refine lv_iconst (v := 1) S.1 S.2.1 dL_law_458 (by decide) ?_
  refine lv_iadd S.1 S.2.1 dL_law_459 ?_
  refine va_sld S.1 S.2.1 hX hbl hbA hW.2.2 hi1 dL_law_460 ?_
  refine lv_aload_n S.1 S.2.1 dL_law_461 rfl (lv_at hl 0 rfl) ?_
  refine lv_iload_n S.1 S.2.1 dL_law_462 rfl (lv_at hl 3 rfl) ?_
  refine lv_iconst (v := 2) S.1 S.2.1 dL_law_463 (by decide) ?_
  refine lv_iadd S.1 S.2.1 dL_law_464 ?_
  refine va_sld S.1 S.2.1 hX hbl hbA hW.2.2 hi2 dL_law_465 ?_
  refine kV_i (As := [.int (xs (x3 + 1).toNatClampNeg), .int (xs (x3 + 2).toNatClampNeg)]) (rest := []) S hK hA (z := none) trivial [] (wMo cs aM σ Λ) hW (cMa_day l D cs a aS aT aE aG aD aR μ ς τ ε γ Γ δ ρ dr (xs (x3 + 1).toNatClampNeg) (xs (x3 + 2).toNatClampNeg) N hx) (ci := 5) rfl rfl lk_L_58 q498 q499 ⟨Nat.le_of_ble_eq_true rfl, Nat.le_of_ble_eq_true rfl⟩ rfl (Nat.le_of_ble_eq_true rfl) hl.1 dL_law_466 ⟨Nat.le_of_ble_eq_true rfl, Nat.le_of_ble_eq_true rfl⟩ (fun H locs hW => ?_)
  have hW : Wd D A s.heap ((wMa cs a (aT 0) (aS 0) (aD 0) (aG 0) (aR 0) (aE 0) μ ++ (wSc cs aS (aT 0) ς ++ (wTe cs aT τ ++ (wRo cs aE ε ++ (wGa cs aG (aD 0) (aR 0) γ Γ ++ (wDa cs aD dr' δ' ++ (wRo cs aR ρ))))))) ++ (wMo cs aM σ Λ)) H locs := hW
  refine lv_aload_n S.1 S.2.1 dL_law_469 rfl (lv_at hl 2 rfl) ?_
  refine lv_aload_n S.1 S.2.1 dL_law_470 rfl (lv_at hl 0 rfl) ?_
  refine lv_iload_n S.1 S.2.1 dL_law_471 rfl (lv_at hl 3 rfl) ?_
  refine lv_iconst (v := 1) S.1 S.2.1 dL_law_472 (by decide) ?_
  refine lv_iadd S.1 S.2.1 dL_law_473 ?_
  refine va_sld S.1 S.2.1 hX hbl hbA hW.2.2 hi1 dL_law_474 ?_
  refine lv_aload_n S.1 S.2.1 dL_law_475 rfl (lv_at hl 0 rfl) ?_
  refine lv_iload_n S.1 S.2.1 dL_law_476 rfl (lv_at hl 3 rfl) ?_
  refine lv_iconst (v := 2) S.1 S.2.1 dL_law_477 (by decide) ?_
  refine lv_iadd S.1 S.2.1 dL_law_478 ?_
  refine va_sld S.1 S.2.1 hX hbl hbA hW.2.2 hi2 dL_law_479 ?_
  have hW := kw (w' := (wMa cs a (aT 0) (aS 0) (aD 0) (aG 0) (aR 0) (aE 0) μ ++ (wSc cs aS (aT 0) ς ++ (wTe cs aT τ ++ (wRo cs aE ε ++ (wGa cs aG (aD 0) (aR 0) γ Γ ++ (wDa cs aD dr' δ' ++ (wRo cs aR ρ))))))) ++ ((wMo cs aM σ Λ) ++ [])) (by rw [List.append_nil]) hW
  refine kV_i (As := [.int (xs (x3 + 1).toNatClampNeg), .int (xs (x3 + 2).toNatClampNeg)]) (rest := [.int r]) S hK hA (z := none) trivial ((wMa cs a (aT 0) (aS 0) (aD 0) (aG 0) (aR 0) (aE 0) μ ++ (wSc cs aS (aT 0) ς ++ (wTe cs aT τ ++ (wRo cs aE ε ++ (wGa cs aG (aD 0) (aR 0) γ Γ ++ (wDa cs aD dr' δ' ++ (wRo cs aR ρ)))))))) [] hW (cMo_day l D cs aM σ Λ (xs (x3 + 1).toNatClampNeg) (xs (x3 + 2).toNatClampNeg) N hm) (ci := 6) rfl rfl lk_L_61 q887 q888 ⟨Nat.le_of_ble_eq_true rfl, Nat.le_of_ble_eq_true rfl⟩ rfl (Nat.le_of_ble_eq_true rfl) hl.1 dL_law_480 ⟨Nat.le_of_ble_eq_true rfl, Nat.le_of_ble_eq_true rfl⟩ (fun H locs hW => ?_)
  have hW : Wd D A s.heap ((wMa cs a (aT 0) (aS 0) (aD 0) (aG 0) (aR 0) (aE 0) μ ++ (wSc cs aS (aT 0) ς ++ (wTe cs aT τ ++ (wRo cs aE ε ++ (wGa cs aG (aD 0) (aR 0) γ Γ ++ (wDa cs aD dr' δ' ++ (wRo cs aR ρ))))))) ++ (wMo cs aM σ' Λ)) H locs := kw (by rw [List.append_nil]) hW
  refine lv_icmp_eq (tgt := 967) S.1 S.2.1 dL_law_483 (by decide) (fun c9 => ?_) (fun c9 => ?_)
  · exact hk _ _ _ hW hl
  · exact absurd rfl c9
set_option maxHeartbeats 4000000 in
set_option maxRecDepth 100000 in
theorem wLaw_10 {p : Program} {l : Launch} {e : Env} {s : State} {m : MethodId} {args : Array Value} {below : List Frame} {meth : Method} {c : Code} {A : Nat → Prop} {Q : State → Prop} {D : va_G} {cs : Nat → ClassId} {fs a aS aT aE aG aD aR aM : Nat → Nat} {μ ς τ ε γ : St} {Γ : Nat → Int64} {δ ρ σ : St} {Λ : Nat → Int64} {dr b L N : Nat} {xs : Nat → Int32} {x3 : Int32} {r : Int32} {δ' : St} {dr' : Nat} {σ' : St} (S : Fx p m c cL_law 4 s args RL) (hK : va_K D vwCl (tyL cs) s) (hA : ∀ x, s.heap.size ≤ x → A x) (hZ : Zf fs A s s.heap) (hX : va_X b L xs s s.heap) (hbl : b < s.heap.size) (hbA : ¬ A b) (hi1 : vp_in (x3 + 1) L) (hi2 : vp_in (x3 + 2) L) (hi3 : vp_in (x3 + 3) L) (hi4 : vp_in (x3 + 4) L) (hx : fMa_sat N (xs (x3 + 1).toNatClampNeg) (xs (x3 + 2).toNatClampNeg) μ ρ (aR 0) δ dr = some (r, δ', dr')) (hm : fMo_sat N (xs (x3 + 1).toNatClampNeg) (xs (x3 + 2).toNatClampNeg) σ = some (r, σ')) (hk : ∀ (H : Heap) (locs : List Loc) (ls : Array Slot), Wd D A s.heap ((wMa cs a (aT 0) (aS 0) (aD 0) (aG 0) (aR 0) (aE 0) μ ++ (wSc cs aS (aT 0) ς ++ (wTe cs aT τ ++ (wRo cs aE ε ++ (wGa cs aG (aD 0) (aR 0) γ Γ ++ (wDa cs aD dr' δ' ++ (wRo cs aR ρ))))))) ++ (wMo cs aM σ' Λ)) H locs → lv_has ls 4 [(0, .ref b), (1, .ref (a 0)), (2, .ref (aM 0)), (3, .int x3)] → W p l e room_1 s m args below meth c H locs 47 4456 Q (F0 m 967 ls [])) : ∀ (H : Heap) (locs : List Loc) (ls : Array Slot), Wd D A s.heap ((wMa cs a (aT 0) (aS 0) (aD 0) (aG 0) (aR 0) (aE 0) μ ++ (wSc cs aS (aT 0) ς ++ (wTe cs aT τ ++ (wRo cs aE ε ++ (wGa cs aG (aD 0) (aR 0) γ Γ ++ (wDa cs aD dr δ ++ (wRo cs aR ρ))))))) ++ (wMo cs aM σ Λ)) H locs → lv_has ls 4 [(0, .ref b), (1, .ref (a 0)), (2, .ref (aM 0)), (3, .int x3)] → W p l e room_1 s m args below meth c H locs 47 4456 Q (F0 m 488 ls []) := by
  intro H locs ls hW hl
  refine lv_aload_n S.1 S.2.1 dL_law_488 rfl (lv_at hl 1 rfl) ?_
  refine lv_aload_n S.1 S.2.1 dL_law_489 rfl (lv_at hl 0 rfl) ?_
  refine lv_iload_n S.1 S.2.1 dL_law_490 rfl (lv_at hl 3 rfl) ?_
  refine lv_iconst (v := 1) S.1 S.2.1 dL_law_491 (by decide) ?_
  refine lv_iadd S.1 S.2.1 dL_law_492 ?_
  refine va_sld S.1 S.2.1 hX hbl hbA hW.2.2 hi1 dL_law_493 ?_
  refine lv_aload_n S.1 S.2.1 dL_law_494 rfl (lv_at hl 0 rfl) ?_
  refine lv_iload_n S.1 S.2.1 dL_law_495 rfl (lv_at hl 3 rfl) ?_
  refine lv_iconst (v := 2) S.1 S.2.1 dL_law_496 (by decide) ?_
  refine lv_iadd S.1 S.2.1 dL_law_497 ?_
  refine va_sld S.1 S.2.1 hX hbl hbA hW.2.2 hi2 dL_law_498 ?_
  refine kV_i (As := [.int (xs (x3 + 1).toNatClampNeg), .int (xs (x3 + 2).toNatClampNeg)]) (rest := []) S hK hA (z := none) trivial [] (wMo cs aM σ Λ) hW (cMa_sat l D cs a aS aT aE aG aD aR μ ς τ ε γ Γ δ ρ dr (xs (x3 + 1).toNatClampNeg) (xs (x3 + 2).toNatClampNeg) N hx) (ci := 5) rfl rfl lk_L_62 q527 q528 ⟨Nat.le_of_ble_eq_true rfl, Nat.le_of_ble_eq_true rfl⟩ rfl (Nat.le_of_ble_eq_true rfl) hl.1 dL_law_499 ⟨Nat.le_of_ble_eq_true rfl, Nat.le_of_ble_eq_true rfl⟩ (fun H locs hW => ?_)
  have hW : Wd D A s.heap ((wMa cs a (aT 0) (aS 0) (aD 0) (aG 0) (aR 0) (aE 0) μ ++ (wSc cs aS (aT 0) ς ++ (wTe cs aT τ ++ (wRo cs aE ε ++ (wGa cs aG (aD 0) (aR 0) γ Γ ++ (wDa cs aD dr' δ' ++ (wRo cs aR ρ))))))) ++ (wMo cs aM σ Λ)) H locs := hW
  refine lv_aload_n S.1 S.2.1 dL_law_502 rfl (lv_at hl 2 rfl) ?_
  refine lv_aload_n S.1 S.2.1 dL_law_503 rfl (lv_at hl 0 rfl) ?_
  refine lv_iload_n S.1 S.2.1 dL_law_504 rfl (lv_at hl 3 rfl) ?_
  refine lv_iconst (v := 1) S.1 S.2.1 dL_law_505 (by decide) ?_
  refine lv_iadd S.1 S.2.1 dL_law_506 ?_
  refine va_sld S.1 S.2.1 hX hbl hbA hW.2.2 hi1 dL_law_507 ?_
  refine lv_aload_n S.1 S.2.1 dL_law_508 rfl (lv_at hl 0 rfl) ?_
  refine lv_iload_n S.1 S.2.1 dL_law_509 rfl (lv_at hl 3 rfl) ?_
  refine lv_iconst (v := 2) S.1 S.2.1 dL_law_510 (by decide) ?_
  refine lv_iadd S.1 S.2.1 dL_law_511 ?_
  refine va_sld S.1 S.2.1 hX hbl hbA hW.2.2 hi2 dL_law_512 ?_
  have hW := kw (w' := (wMa cs a (aT 0) (aS 0) (aD 0) (aG 0) (aR 0) (aE 0) μ ++ (wSc cs aS (aT 0) ς ++ (wTe cs aT τ ++ (wRo cs aE ε ++ (wGa cs aG (aD 0) (aR 0) γ Γ ++ (wDa cs aD dr' δ' ++ (wRo cs aR ρ))))))) ++ ((wMo cs aM σ Λ) ++ [])) (by rw [List.append_nil]) hW
  refine kV_i (As := [.int (xs (x3 + 1).toNatClampNeg), .int (xs (x3 + 2).toNatClampNeg)]) (rest := [.int r]) S hK hA (z := none) trivial ((wMa cs a (aT 0) (aS 0) (aD 0) (aG 0) (aR 0) (aE 0) μ ++ (wSc cs aS (aT 0) ς ++ (wTe cs aT τ ++ (wRo cs aE ε ++ (wGa cs aG (aD 0) (aR 0) γ Γ ++ (wDa cs aD dr' δ' ++ (wRo cs aR ρ)))))))) [] hW (cMo_sat l D cs aM σ Λ (xs (x3 + 1).toNatClampNeg) (xs (x3 + 2).toNatClampNeg) N hm) (ci := 6) rfl rfl lk_L_65 q899 q900 ⟨Nat.le_of_ble_eq_true rfl, Nat.le_of_ble_eq_true rfl⟩ rfl (Nat.le_of_ble_eq_true rfl) hl.1 dL_law_513 ⟨Nat.le_of_ble_eq_true rfl, Nat.le_of_ble_eq_true rfl⟩ (fun H locs hW => ?_)
  have hW : Wd D A s.heap ((wMa cs a (aT 0) (aS 0) (aD 0) (aG 0) (aR 0) (aE 0) μ ++ (wSc cs aS (aT 0) ς ++ (wTe cs aT τ ++ (wRo cs aE ε ++ (wGa cs aG (aD 0) (aR 0) γ Γ ++ (wDa cs aD dr' δ' ++ (wRo cs aR ρ))))))) ++ (wMo cs aM σ' Λ)) H locs := kw (by rw [List.append_nil]) hW
  refine lv_icmp_eq (tgt := 967) S.1 S.2.1 dL_law_516 (by decide) (fun c9 => ?_) (fun c9 => ?_)
  · exact hk _ _ _ hW hl
  · exact absurd rfl c9
set_option maxHeartbeats 4000000 in
set_option maxRecDepth 100000 in
theorem wLaw_11 {p : Program} {l : Launch} {e : Env} {s : State} {m : MethodId} {args : Array Value} {below : List Frame} {meth : Method} {c : Code} {A : Nat → Prop} {Q : State → Prop} {D : va_G} {cs : Nat → ClassId} {fs a aS aT aE aG aD aR aM : Nat → Nat} {μ ς τ ε γ : St} {Γ : Nat → Int64} {δ ρ σ : St} {Λ : Nat → Int64} {dr b L N : Nat} {xs : Nat → Int32} {x3 : Int32} {r : Int32} {μ' : St} {δ' : St} {dr' : Nat} {σ' : St} (S : Fx p m c cL_law 4 s args RL) (hK : va_K D vwCl (tyL cs) s) (hA : ∀ x, s.heap.size ≤ x → A x) (hZ : Zf fs A s s.heap) (hX : va_X b L xs s s.heap) (hbl : b < s.heap.size) (hbA : ¬ A b) (hi1 : vp_in (x3 + 1) L) (hi2 : vp_in (x3 + 2) L) (hi3 : vp_in (x3 + 3) L) (hi4 : vp_in (x3 + 4) L) (hx : fMa_bettered N ρ (aR 0) μ δ dr = some (r, μ', δ', dr')) (hm : fMo_bettered N σ = some (r, σ')) (hk : ∀ (H : Heap) (locs : List Loc) (ls : Array Slot), Wd D A s.heap ((wMa cs a (aT 0) (aS 0) (aD 0) (aG 0) (aR 0) (aE 0) μ' ++ (wSc cs aS (aT 0) ς ++ (wTe cs aT τ ++ (wRo cs aE ε ++ (wGa cs aG (aD 0) (aR 0) γ Γ ++ (wDa cs aD dr' δ' ++ (wRo cs aR ρ))))))) ++ (wMo cs aM σ' Λ)) H locs → lv_has ls 4 [(0, .ref b), (1, .ref (a 0)), (2, .ref (aM 0)), (3, .int x3)] → W p l e room_1 s m args below meth c H locs 47 4456 Q (F0 m 967 ls [])) : ∀ (H : Heap) (locs : List Loc) (ls : Array Slot), Wd D A s.heap ((wMa cs a (aT 0) (aS 0) (aD 0) (aG 0) (aR 0) (aE 0) μ ++ (wSc cs aS (aT 0) ς ++ (wTe cs aT τ ++ (wRo cs aE ε ++ (wGa cs aG (aD 0) (aR 0) γ Γ ++ (wDa cs aD dr δ ++ (wRo cs aR ρ))))))) ++ (wMo cs aM σ Λ)) H locs → lv_has ls 4 [(0, .ref b), (1, .ref (a 0)), (2, .ref (aM 0)), (3, .int x3)] → W p l e room_1 s m args below meth c H locs 47 4456 Q (F0 m 521 ls []) := by
  intro H locs ls hW hl
  refine lv_aload_n S.1 S.2.1 dL_law_521 rfl (lv_at hl 1 rfl) ?_
  refine kV_i (As := []) (rest := []) S hK hA (z := none) trivial [] (wMo cs aM σ Λ) hW (cMa_bettered l D cs a aS aT aE aG aD aR μ ς τ ε γ Γ δ ρ dr N hx) (ci := 5) rfl rfl lk_L_66 q535 q536 ⟨Nat.le_of_ble_eq_true rfl, Nat.le_of_ble_eq_true rfl⟩ rfl (Nat.le_of_ble_eq_true rfl) hl.1 dL_law_522 ⟨Nat.le_of_ble_eq_true rfl, Nat.le_of_ble_eq_true rfl⟩ (fun H locs hW => ?_)
  have hW : Wd D A s.heap ((wMa cs a (aT 0) (aS 0) (aD 0) (aG 0) (aR 0) (aE 0) μ' ++ (wSc cs aS (aT 0) ς ++ (wTe cs aT τ ++ (wRo cs aE ε ++ (wGa cs aG (aD 0) (aR 0) γ Γ ++ (wDa cs aD dr' δ' ++ (wRo cs aR ρ))))))) ++ (wMo cs aM σ Λ)) H locs := hW
  refine lv_aload_n S.1 S.2.1 dL_law_525 rfl (lv_at hl 2 rfl) ?_
  have hW := kw (w' := (wMa cs a (aT 0) (aS 0) (aD 0) (aG 0) (aR 0) (aE 0) μ' ++ (wSc cs aS (aT 0) ς ++ (wTe cs aT τ ++ (wRo cs aE ε ++ (wGa cs aG (aD 0) (aR 0) γ Γ ++ (wDa cs aD dr' δ' ++ (wRo cs aR ρ))))))) ++ ((wMo cs aM σ Λ) ++ [])) (by rw [List.append_nil]) hW
  refine kV_i (As := []) (rest := [.int r]) S hK hA (z := none) trivial ((wMa cs a (aT 0) (aS 0) (aD 0) (aG 0) (aR 0) (aE 0) μ' ++ (wSc cs aS (aT 0) ς ++ (wTe cs aT τ ++ (wRo cs aE ε ++ (wGa cs aG (aD 0) (aR 0) γ Γ ++ (wDa cs aD dr' δ' ++ (wRo cs aR ρ)))))))) [] hW (cMo_bettered l D cs aM σ Λ N hm) (ci := 6) rfl rfl lk_L_69 q903 q904 ⟨Nat.le_of_ble_eq_true rfl, Nat.le_of_ble_eq_true rfl⟩ rfl (Nat.le_of_ble_eq_true rfl) hl.1 dL_law_526 ⟨Nat.le_of_ble_eq_true rfl, Nat.le_of_ble_eq_true rfl⟩ (fun H locs hW => ?_)
  have hW : Wd D A s.heap ((wMa cs a (aT 0) (aS 0) (aD 0) (aG 0) (aR 0) (aE 0) μ' ++ (wSc cs aS (aT 0) ς ++ (wTe cs aT τ ++ (wRo cs aE ε ++ (wGa cs aG (aD 0) (aR 0) γ Γ ++ (wDa cs aD dr' δ' ++ (wRo cs aR ρ))))))) ++ (wMo cs aM σ' Λ)) H locs := kw (by rw [List.append_nil]) hW
  refine lv_icmp_eq (tgt := 967) S.1 S.2.1 dL_law_529 (by decide) (fun c9 => ?_) (fun c9 => ?_)
  · exact hk _ _ _ hW hl
  · exact absurd rfl c9
set_option maxHeartbeats 4000000 in
set_option maxRecDepth 100000 in
theorem wLaw_12 {p : Program} {l : Launch} {e : Env} {s : State} {m : MethodId} {args : Array Value} {below : List Frame} {meth : Method} {c : Code} {A : Nat → Prop} {Q : State → Prop} {D : va_G} {cs : Nat → ClassId} {fs a aS aT aE aG aD aR aM : Nat → Nat} {μ ς τ ε γ : St} {Γ : Nat → Int64} {δ ρ σ : St} {Λ : Nat → Int64} {dr b L N : Nat} {xs : Nat → Int32} {x3 : Int32} {r : Int32} {γ' : St} {Γ' : Nat → Int64} {δ' : St} {dr' : Nat} {σ' : St} (S : Fx p m c cL_law 4 s args RL) (hK : va_K D vwCl (tyL cs) s) (hA : ∀ x, s.heap.size ≤ x → A x) (hZ : Zf fs A s s.heap) (hX : va_X b L xs s s.heap) (hbl : b < s.heap.size) (hbA : ¬ A b) (hi1 : vp_in (x3 + 1) L) (hi2 : vp_in (x3 + 2) L) (hi3 : vp_in (x3 + 3) L) (hi4 : vp_in (x3 + 4) L) (hx : fMa_rest N (xs (x3 + 1).toNatClampNeg) (xs (x3 + 2).toNatClampNeg) ρ (aR 0) γ Γ δ dr = some (r, γ', Γ', δ', dr')) (hm : fMo_rest N (xs (x3 + 1).toNatClampNeg) (xs (x3 + 2).toNatClampNeg) σ = some (r, σ')) (hk : ∀ (H : Heap) (locs : List Loc) (ls : Array Slot), Wd D A s.heap ((wMa cs a (aT 0) (aS 0) (aD 0) (aG 0) (aR 0) (aE 0) μ ++ (wSc cs aS (aT 0) ς ++ (wTe cs aT τ ++ (wRo cs aE ε ++ (wGa cs aG (aD 0) (aR 0) γ' Γ' ++ (wDa cs aD dr' δ' ++ (wRo cs aR ρ))))))) ++ (wMo cs aM σ' Λ)) H locs → lv_has ls 4 [(0, .ref b), (1, .ref (a 0)), (2, .ref (aM 0)), (3, .int x3)] → W p l e room_1 s m args below meth c H locs 47 4456 Q (F0 m 967 ls [])) : ∀ (H : Heap) (locs : List Loc) (ls : Array Slot), Wd D A s.heap ((wMa cs a (aT 0) (aS 0) (aD 0) (aG 0) (aR 0) (aE 0) μ ++ (wSc cs aS (aT 0) ς ++ (wTe cs aT τ ++ (wRo cs aE ε ++ (wGa cs aG (aD 0) (aR 0) γ Γ ++ (wDa cs aD dr δ ++ (wRo cs aR ρ))))))) ++ (wMo cs aM σ Λ)) H locs → lv_has ls 4 [(0, .ref b), (1, .ref (a 0)), (2, .ref (aM 0)), (3, .int x3)] → W p l e room_1 s m args below meth c H locs 47 4456 Q (F0 m 534 ls []) := by
  intro H locs ls hW hl
  refine lv_aload_n S.1 S.2.1 dL_law_534 rfl (lv_at hl 1 rfl) ?_
  refine lv_aload_n S.1 S.2.1 dL_law_535 rfl (lv_at hl 0 rfl) ?_
  refine lv_iload_n S.1 S.2.1 dL_law_536 rfl (lv_at hl 3 rfl) ?_
  refine lv_iconst (v := 1) S.1 S.2.1 dL_law_537 (by decide) ?_
  refine lv_iadd S.1 S.2.1 dL_law_538 ?_
  refine va_sld S.1 S.2.1 hX hbl hbA hW.2.2 hi1 dL_law_539 ?_
  refine lv_aload_n S.1 S.2.1 dL_law_540 rfl (lv_at hl 0 rfl) ?_
  refine lv_iload_n S.1 S.2.1 dL_law_541 rfl (lv_at hl 3 rfl) ?_
  refine lv_iconst (v := 2) S.1 S.2.1 dL_law_542 (by decide) ?_
  refine lv_iadd S.1 S.2.1 dL_law_543 ?_
  refine va_sld S.1 S.2.1 hX hbl hbA hW.2.2 hi2 dL_law_544 ?_
  refine kV_i (As := [.int (xs (x3 + 1).toNatClampNeg), .int (xs (x3 + 2).toNatClampNeg)]) (rest := []) S hK hA (z := none) trivial [] (wMo cs aM σ Λ) hW (cMa_rest l D cs a aS aT aE aG aD aR μ ς τ ε γ Γ δ ρ dr (xs (x3 + 1).toNatClampNeg) (xs (x3 + 2).toNatClampNeg) N hx) (ci := 5) rfl rfl lk_L_70 q543 q544 ⟨Nat.le_of_ble_eq_true rfl, Nat.le_of_ble_eq_true rfl⟩ rfl (Nat.le_of_ble_eq_true rfl) hl.1 dL_law_545 ⟨Nat.le_of_ble_eq_true rfl, Nat.le_of_ble_eq_true rfl⟩ (fun H locs hW => ?_)
  have hW : Wd D A s.heap ((wMa cs a (aT 0) (aS 0) (aD 0) (aG 0) (aR 0) (aE 0) μ ++ (wSc cs aS (aT 0) ς ++ (wTe cs aT τ ++ (wRo cs aE ε ++ (wGa cs aG (aD 0) (aR 0) γ' Γ' ++ (wDa cs aD dr' δ' ++ (wRo cs aR ρ))))))) ++ (wMo cs aM σ Λ)) H locs := hW
  refine lv_aload_n S.1 S.2.1 dL_law_548 rfl (lv_at hl 2 rfl) ?_
  refine lv_aload_n S.1 S.2.1 dL_law_549 rfl (lv_at hl 0 rfl) ?_
  refine lv_iload_n S.1 S.2.1 dL_law_550 rfl (lv_at hl 3 rfl) ?_
  refine lv_iconst (v := 1) S.1 S.2.1 dL_law_551 (by decide) ?_
  refine lv_iadd S.1 S.2.1 dL_law_552 ?_
  refine va_sld S.1 S.2.1 hX hbl hbA hW.2.2 hi1 dL_law_553 ?_
  refine lv_aload_n S.1 S.2.1 dL_law_554 rfl (lv_at hl 0 rfl) ?_
  refine lv_iload_n S.1 S.2.1 dL_law_555 rfl (lv_at hl 3 rfl) ?_
  refine lv_iconst (v := 2) S.1 S.2.1 dL_law_556 (by decide) ?_
  refine lv_iadd S.1 S.2.1 dL_law_557 ?_
  refine va_sld S.1 S.2.1 hX hbl hbA hW.2.2 hi2 dL_law_558 ?_
  have hW := kw (w' := (wMa cs a (aT 0) (aS 0) (aD 0) (aG 0) (aR 0) (aE 0) μ ++ (wSc cs aS (aT 0) ς ++ (wTe cs aT τ ++ (wRo cs aE ε ++ (wGa cs aG (aD 0) (aR 0) γ' Γ' ++ (wDa cs aD dr' δ' ++ (wRo cs aR ρ))))))) ++ ((wMo cs aM σ Λ) ++ [])) (by rw [List.append_nil]) hW
  refine kV_i (As := [.int (xs (x3 + 1).toNatClampNeg), .int (xs (x3 + 2).toNatClampNeg)]) (rest := [.int r]) S hK hA (z := none) trivial ((wMa cs a (aT 0) (aS 0) (aD 0) (aG 0) (aR 0) (aE 0) μ ++ (wSc cs aS (aT 0) ς ++ (wTe cs aT τ ++ (wRo cs aE ε ++ (wGa cs aG (aD 0) (aR 0) γ' Γ' ++ (wDa cs aD dr' δ' ++ (wRo cs aR ρ)))))))) [] hW (cMo_rest l D cs aM σ Λ (xs (x3 + 1).toNatClampNeg) (xs (x3 + 2).toNatClampNeg) N hm) (ci := 6) rfl rfl lk_L_73 q907 q908 ⟨Nat.le_of_ble_eq_true rfl, Nat.le_of_ble_eq_true rfl⟩ rfl (Nat.le_of_ble_eq_true rfl) hl.1 dL_law_559 ⟨Nat.le_of_ble_eq_true rfl, Nat.le_of_ble_eq_true rfl⟩ (fun H locs hW => ?_)
  have hW : Wd D A s.heap ((wMa cs a (aT 0) (aS 0) (aD 0) (aG 0) (aR 0) (aE 0) μ ++ (wSc cs aS (aT 0) ς ++ (wTe cs aT τ ++ (wRo cs aE ε ++ (wGa cs aG (aD 0) (aR 0) γ' Γ' ++ (wDa cs aD dr' δ' ++ (wRo cs aR ρ))))))) ++ (wMo cs aM σ' Λ)) H locs := kw (by rw [List.append_nil]) hW
  refine lv_icmp_eq (tgt := 967) S.1 S.2.1 dL_law_562 (by decide) (fun c9 => ?_) (fun c9 => ?_)
  · exact hk _ _ _ hW hl
  · exact absurd rfl c9
set_option maxHeartbeats 4000000 in
set_option maxRecDepth 100000 in
theorem wLaw_13 {p : Program} {l : Launch} {e : Env} {s : State} {m : MethodId} {args : Array Value} {below : List Frame} {meth : Method} {c : Code} {A : Nat → Prop} {Q : State → Prop} {D : va_G} {cs : Nat → ClassId} {fs a aS aT aE aG aD aR aM : Nat → Nat} {μ ς τ ε γ : St} {Γ : Nat → Int64} {δ ρ σ : St} {Λ : Nat → Int64} {dr b L N : Nat} {xs : Nat → Int32} {x3 : Int32} {r : Int32} {γ' : St} {Γ' : Nat → Int64} {δ' : St} {dr' : Nat} {σ' : St} (S : Fx p m c cL_law 4 s args RL) (hK : va_K D vwCl (tyL cs) s) (hA : ∀ x, s.heap.size ≤ x → A x) (hZ : Zf fs A s s.heap) (hX : va_X b L xs s s.heap) (hbl : b < s.heap.size) (hbA : ¬ A b) (hi1 : vp_in (x3 + 1) L) (hi2 : vp_in (x3 + 2) L) (hi3 : vp_in (x3 + 3) L) (hi4 : vp_in (x3 + 4) L) (hx : fMa_rests N (xs (x3 + 1).toNatClampNeg) (xs (x3 + 2).toNatClampNeg) ρ (aR 0) γ Γ δ dr = some (r, γ', Γ', δ', dr')) (hm : fMo_rests N (xs (x3 + 1).toNatClampNeg) (xs (x3 + 2).toNatClampNeg) σ = some (r, σ')) (hk : ∀ (H : Heap) (locs : List Loc) (ls : Array Slot), Wd D A s.heap ((wMa cs a (aT 0) (aS 0) (aD 0) (aG 0) (aR 0) (aE 0) μ ++ (wSc cs aS (aT 0) ς ++ (wTe cs aT τ ++ (wRo cs aE ε ++ (wGa cs aG (aD 0) (aR 0) γ' Γ' ++ (wDa cs aD dr' δ' ++ (wRo cs aR ρ))))))) ++ (wMo cs aM σ' Λ)) H locs → lv_has ls 4 [(0, .ref b), (1, .ref (a 0)), (2, .ref (aM 0)), (3, .int x3)] → W p l e room_1 s m args below meth c H locs 47 4456 Q (F0 m 967 ls [])) : ∀ (H : Heap) (locs : List Loc) (ls : Array Slot), Wd D A s.heap ((wMa cs a (aT 0) (aS 0) (aD 0) (aG 0) (aR 0) (aE 0) μ ++ (wSc cs aS (aT 0) ς ++ (wTe cs aT τ ++ (wRo cs aE ε ++ (wGa cs aG (aD 0) (aR 0) γ Γ ++ (wDa cs aD dr δ ++ (wRo cs aR ρ))))))) ++ (wMo cs aM σ Λ)) H locs → lv_has ls 4 [(0, .ref b), (1, .ref (a 0)), (2, .ref (aM 0)), (3, .int x3)] → W p l e room_1 s m args below meth c H locs 47 4456 Q (F0 m 567 ls []) := by
  intro H locs ls hW hl
  refine lv_aload_n S.1 S.2.1 dL_law_567 rfl (lv_at hl 1 rfl) ?_
  refine lv_aload_n S.1 S.2.1 dL_law_568 rfl (lv_at hl 0 rfl) ?_
  refine lv_iload_n S.1 S.2.1 dL_law_569 rfl (lv_at hl 3 rfl) ?_
  refine lv_iconst (v := 1) S.1 S.2.1 dL_law_570 (by decide) ?_
  refine lv_iadd S.1 S.2.1 dL_law_571 ?_
  refine va_sld S.1 S.2.1 hX hbl hbA hW.2.2 hi1 dL_law_572 ?_
  refine lv_aload_n S.1 S.2.1 dL_law_573 rfl (lv_at hl 0 rfl) ?_
  refine lv_iload_n S.1 S.2.1 dL_law_574 rfl (lv_at hl 3 rfl) ?_
  refine lv_iconst (v := 2) S.1 S.2.1 dL_law_575 (by decide) ?_
  refine lv_iadd S.1 S.2.1 dL_law_576 ?_
  refine va_sld S.1 S.2.1 hX hbl hbA hW.2.2 hi2 dL_law_577 ?_
  refine kV_i (As := [.int (xs (x3 + 1).toNatClampNeg), .int (xs (x3 + 2).toNatClampNeg)]) (rest := []) S hK hA (z := none) trivial [] (wMo cs aM σ Λ) hW (cMa_rests l D cs a aS aT aE aG aD aR μ ς τ ε γ Γ δ ρ dr (xs (x3 + 1).toNatClampNeg) (xs (x3 + 2).toNatClampNeg) N hx) (ci := 5) rfl rfl lk_L_74 q575 q576 ⟨Nat.le_of_ble_eq_true rfl, Nat.le_of_ble_eq_true rfl⟩ rfl (Nat.le_of_ble_eq_true rfl) hl.1 dL_law_578 ⟨Nat.le_of_ble_eq_true rfl, Nat.le_of_ble_eq_true rfl⟩ (fun H locs hW => ?_)
  have hW : Wd D A s.heap ((wMa cs a (aT 0) (aS 0) (aD 0) (aG 0) (aR 0) (aE 0) μ ++ (wSc cs aS (aT 0) ς ++ (wTe cs aT τ ++ (wRo cs aE ε ++ (wGa cs aG (aD 0) (aR 0) γ' Γ' ++ (wDa cs aD dr' δ' ++ (wRo cs aR ρ))))))) ++ (wMo cs aM σ Λ)) H locs := hW
  refine lv_aload_n S.1 S.2.1 dL_law_581 rfl (lv_at hl 2 rfl) ?_
  refine lv_aload_n S.1 S.2.1 dL_law_582 rfl (lv_at hl 0 rfl) ?_
  refine lv_iload_n S.1 S.2.1 dL_law_583 rfl (lv_at hl 3 rfl) ?_
  refine lv_iconst (v := 1) S.1 S.2.1 dL_law_584 (by decide) ?_
  refine lv_iadd S.1 S.2.1 dL_law_585 ?_
  refine va_sld S.1 S.2.1 hX hbl hbA hW.2.2 hi1 dL_law_586 ?_
  refine lv_aload_n S.1 S.2.1 dL_law_587 rfl (lv_at hl 0 rfl) ?_
  refine lv_iload_n S.1 S.2.1 dL_law_588 rfl (lv_at hl 3 rfl) ?_
  refine lv_iconst (v := 2) S.1 S.2.1 dL_law_589 (by decide) ?_
  refine lv_iadd S.1 S.2.1 dL_law_590 ?_
  refine va_sld S.1 S.2.1 hX hbl hbA hW.2.2 hi2 dL_law_591 ?_
  have hW := kw (w' := (wMa cs a (aT 0) (aS 0) (aD 0) (aG 0) (aR 0) (aE 0) μ ++ (wSc cs aS (aT 0) ς ++ (wTe cs aT τ ++ (wRo cs aE ε ++ (wGa cs aG (aD 0) (aR 0) γ' Γ' ++ (wDa cs aD dr' δ' ++ (wRo cs aR ρ))))))) ++ ((wMo cs aM σ Λ) ++ [])) (by rw [List.append_nil]) hW
  refine kV_i (As := [.int (xs (x3 + 1).toNatClampNeg), .int (xs (x3 + 2).toNatClampNeg)]) (rest := [.int r]) S hK hA (z := none) trivial ((wMa cs a (aT 0) (aS 0) (aD 0) (aG 0) (aR 0) (aE 0) μ ++ (wSc cs aS (aT 0) ς ++ (wTe cs aT τ ++ (wRo cs aE ε ++ (wGa cs aG (aD 0) (aR 0) γ' Γ' ++ (wDa cs aD dr' δ' ++ (wRo cs aR ρ)))))))) [] hW (cMo_rests l D cs aM σ Λ (xs (x3 + 1).toNatClampNeg) (xs (x3 + 2).toNatClampNeg) N hm) (ci := 6) rfl rfl lk_L_77 q911 q912 ⟨Nat.le_of_ble_eq_true rfl, Nat.le_of_ble_eq_true rfl⟩ rfl (Nat.le_of_ble_eq_true rfl) hl.1 dL_law_592 ⟨Nat.le_of_ble_eq_true rfl, Nat.le_of_ble_eq_true rfl⟩ (fun H locs hW => ?_)
  have hW : Wd D A s.heap ((wMa cs a (aT 0) (aS 0) (aD 0) (aG 0) (aR 0) (aE 0) μ ++ (wSc cs aS (aT 0) ς ++ (wTe cs aT τ ++ (wRo cs aE ε ++ (wGa cs aG (aD 0) (aR 0) γ' Γ' ++ (wDa cs aD dr' δ' ++ (wRo cs aR ρ))))))) ++ (wMo cs aM σ' Λ)) H locs := kw (by rw [List.append_nil]) hW
  refine lv_icmp_eq (tgt := 967) S.1 S.2.1 dL_law_595 (by decide) (fun c9 => ?_) (fun c9 => ?_)
  · exact hk _ _ _ hW hl
  · exact absurd rfl c9
set_option maxHeartbeats 4000000 in
set_option maxRecDepth 100000 in
theorem wLaw_14 {p : Program} {l : Launch} {e : Env} {s : State} {m : MethodId} {args : Array Value} {below : List Frame} {meth : Method} {c : Code} {A : Nat → Prop} {Q : State → Prop} {D : va_G} {cs : Nat → ClassId} {fs a aS aT aE aG aD aR aM : Nat → Nat} {μ ς τ ε γ : St} {Γ : Nat → Int64} {δ ρ σ : St} {Λ : Nat → Int64} {dr b L N : Nat} {xs : Nat → Int32} {x3 : Int32} {r : Int32} {δ' : St} {dr' : Nat} {σ' : St} (S : Fx p m c cL_law 4 s args RL) (hK : va_K D vwCl (tyL cs) s) (hA : ∀ x, s.heap.size ≤ x → A x) (hZ : Zf fs A s s.heap) (hX : va_X b L xs s s.heap) (hbl : b < s.heap.size) (hbA : ¬ A b) (hi1 : vp_in (x3 + 1) L) (hi2 : vp_in (x3 + 2) L) (hi3 : vp_in (x3 + 3) L) (hi4 : vp_in (x3 + 4) L) (hx : fMa_rounds N (xs (x3 + 1).toNatClampNeg) (xs (x3 + 2).toNatClampNeg) μ ρ (aR 0) δ dr = some (r, δ', dr')) (hm : fMo_rounds N (xs (x3 + 1).toNatClampNeg) (xs (x3 + 2).toNatClampNeg) σ = some (r, σ')) (hk : ∀ (H : Heap) (locs : List Loc) (ls : Array Slot), Wd D A s.heap ((wMa cs a (aT 0) (aS 0) (aD 0) (aG 0) (aR 0) (aE 0) μ ++ (wSc cs aS (aT 0) ς ++ (wTe cs aT τ ++ (wRo cs aE ε ++ (wGa cs aG (aD 0) (aR 0) γ Γ ++ (wDa cs aD dr' δ' ++ (wRo cs aR ρ))))))) ++ (wMo cs aM σ' Λ)) H locs → lv_has ls 4 [(0, .ref b), (1, .ref (a 0)), (2, .ref (aM 0)), (3, .int x3)] → W p l e room_1 s m args below meth c H locs 47 4456 Q (F0 m 967 ls [])) : ∀ (H : Heap) (locs : List Loc) (ls : Array Slot), Wd D A s.heap ((wMa cs a (aT 0) (aS 0) (aD 0) (aG 0) (aR 0) (aE 0) μ ++ (wSc cs aS (aT 0) ς ++ (wTe cs aT τ ++ (wRo cs aE ε ++ (wGa cs aG (aD 0) (aR 0) γ Γ ++ (wDa cs aD dr δ ++ (wRo cs aR ρ))))))) ++ (wMo cs aM σ Λ)) H locs → lv_has ls 4 [(0, .ref b), (1, .ref (a 0)), (2, .ref (aM 0)), (3, .int x3)] → W p l e room_1 s m args below meth c H locs 47 4456 Q (F0 m 600 ls []) := by
  intro H locs ls hW hl
  refine lv_aload_n S.1 S.2.1 dL_law_600 rfl (lv_at hl 1 rfl) ?_
  refine lv_aload_n S.1 S.2.1 dL_law_601 rfl (lv_at hl 0 rfl) ?_
  refine lv_iload_n S.1 S.2.1 dL_law_602 rfl (lv_at hl 3 rfl) ?_
  refine lv_iconst (v := 1) S.1 S.2.1 dL_law_603 (by decide) ?_
  refine lv_iadd S.1 S.2.1 dL_law_604 ?_
  refine va_sld S.1 S.2.1 hX hbl hbA hW.2.2 hi1 dL_law_605 ?_
  refine lv_aload_n S.1 S.2.1 dL_law_606 rfl (lv_at hl 0 rfl) ?_
  refine lv_iload_n S.1 S.2.1 dL_law_607 rfl (lv_at hl 3 rfl) ?_
  refine lv_iconst (v := 2) S.1 S.2.1 dL_law_608 (by decide) ?_
  refine lv_iadd S.1 S.2.1 dL_law_609 ?_
  refine va_sld S.1 S.2.1 hX hbl hbA hW.2.2 hi2 dL_law_610 ?_
  refine kV_i (As := [.int (xs (x3 + 1).toNatClampNeg), .int (xs (x3 + 2).toNatClampNeg)]) (rest := []) S hK hA (z := none) trivial [] (wMo cs aM σ Λ) hW (cMa_rounds l D cs a aS aT aE aG aD aR μ ς τ ε γ Γ δ ρ dr (xs (x3 + 1).toNatClampNeg) (xs (x3 + 2).toNatClampNeg) N hx) (ci := 5) rfl rfl lk_L_78 q579 q580 ⟨Nat.le_of_ble_eq_true rfl, Nat.le_of_ble_eq_true rfl⟩ rfl (Nat.le_of_ble_eq_true rfl) hl.1 dL_law_611 ⟨Nat.le_of_ble_eq_true rfl, Nat.le_of_ble_eq_true rfl⟩ (fun H locs hW => ?_)
  have hW : Wd D A s.heap ((wMa cs a (aT 0) (aS 0) (aD 0) (aG 0) (aR 0) (aE 0) μ ++ (wSc cs aS (aT 0) ς ++ (wTe cs aT τ ++ (wRo cs aE ε ++ (wGa cs aG (aD 0) (aR 0) γ Γ ++ (wDa cs aD dr' δ' ++ (wRo cs aR ρ))))))) ++ (wMo cs aM σ Λ)) H locs := hW
  refine lv_aload_n S.1 S.2.1 dL_law_614 rfl (lv_at hl 2 rfl) ?_
  refine lv_aload_n S.1 S.2.1 dL_law_615 rfl (lv_at hl 0 rfl) ?_
  refine lv_iload_n S.1 S.2.1 dL_law_616 rfl (lv_at hl 3 rfl) ?_
  refine lv_iconst (v := 1) S.1 S.2.1 dL_law_617 (by decide) ?_
  refine lv_iadd S.1 S.2.1 dL_law_618 ?_
  refine va_sld S.1 S.2.1 hX hbl hbA hW.2.2 hi1 dL_law_619 ?_
  refine lv_aload_n S.1 S.2.1 dL_law_620 rfl (lv_at hl 0 rfl) ?_
  refine lv_iload_n S.1 S.2.1 dL_law_621 rfl (lv_at hl 3 rfl) ?_
  refine lv_iconst (v := 2) S.1 S.2.1 dL_law_622 (by decide) ?_
  refine lv_iadd S.1 S.2.1 dL_law_623 ?_
  refine va_sld S.1 S.2.1 hX hbl hbA hW.2.2 hi2 dL_law_624 ?_
  have hW := kw (w' := (wMa cs a (aT 0) (aS 0) (aD 0) (aG 0) (aR 0) (aE 0) μ ++ (wSc cs aS (aT 0) ς ++ (wTe cs aT τ ++ (wRo cs aE ε ++ (wGa cs aG (aD 0) (aR 0) γ Γ ++ (wDa cs aD dr' δ' ++ (wRo cs aR ρ))))))) ++ ((wMo cs aM σ Λ) ++ [])) (by rw [List.append_nil]) hW
  refine kV_i (As := [.int (xs (x3 + 1).toNatClampNeg), .int (xs (x3 + 2).toNatClampNeg)]) (rest := [.int r]) S hK hA (z := none) trivial ((wMa cs a (aT 0) (aS 0) (aD 0) (aG 0) (aR 0) (aE 0) μ ++ (wSc cs aS (aT 0) ς ++ (wTe cs aT τ ++ (wRo cs aE ε ++ (wGa cs aG (aD 0) (aR 0) γ Γ ++ (wDa cs aD dr' δ' ++ (wRo cs aR ρ)))))))) [] hW (cMo_rounds l D cs aM σ Λ (xs (x3 + 1).toNatClampNeg) (xs (x3 + 2).toNatClampNeg) N hm) (ci := 6) rfl rfl lk_L_81 q916 q917 ⟨Nat.le_of_ble_eq_true rfl, Nat.le_of_ble_eq_true rfl⟩ rfl (Nat.le_of_ble_eq_true rfl) hl.1 dL_law_625 ⟨Nat.le_of_ble_eq_true rfl, Nat.le_of_ble_eq_true rfl⟩ (fun H locs hW => ?_)
  have hW : Wd D A s.heap ((wMa cs a (aT 0) (aS 0) (aD 0) (aG 0) (aR 0) (aE 0) μ ++ (wSc cs aS (aT 0) ς ++ (wTe cs aT τ ++ (wRo cs aE ε ++ (wGa cs aG (aD 0) (aR 0) γ Γ ++ (wDa cs aD dr' δ' ++ (wRo cs aR ρ))))))) ++ (wMo cs aM σ' Λ)) H locs := kw (by rw [List.append_nil]) hW
  refine lv_icmp_eq (tgt := 967) S.1 S.2.1 dL_law_628 (by decide) (fun c9 => ?_) (fun c9 => ?_)
  · exact hk _ _ _ hW hl
  · exact absurd rfl c9
set_option maxHeartbeats 4000000 in
set_option maxRecDepth 100000 in
theorem wLaw_15 {p : Program} {l : Launch} {e : Env} {s : State} {m : MethodId} {args : Array Value} {below : List Frame} {meth : Method} {c : Code} {A : Nat → Prop} {Q : State → Prop} {D : va_G} {cs : Nat → ClassId} {fs a aS aT aE aG aD aR aM : Nat → Nat} {μ ς τ ε γ : St} {Γ : Nat → Int64} {δ ρ σ : St} {Λ : Nat → Int64} {dr b L N : Nat} {xs : Nat → Int32} {x3 : Int32} {r : Int32} {δ' : St} {dr' : Nat} {σ' : St} (S : Fx p m c cL_law 4 s args RL) (hK : va_K D vwCl (tyL cs) s) (hA : ∀ x, s.heap.size ≤ x → A x) (hZ : Zf fs A s s.heap) (hX : va_X b L xs s s.heap) (hbl : b < s.heap.size) (hbA : ¬ A b) (hi1 : vp_in (x3 + 1) L) (hi2 : vp_in (x3 + 2) L) (hi3 : vp_in (x3 + 3) L) (hi4 : vp_in (x3 + 4) L) (hx : fMa_often N (xs (x3 + 1).toNatClampNeg) (xs (x3 + 2).toNatClampNeg) μ ρ (aR 0) δ dr = some (r, δ', dr')) (hm : fMo_often N (xs (x3 + 1).toNatClampNeg) (xs (x3 + 2).toNatClampNeg) σ = some (r, σ')) (hk : ∀ (H : Heap) (locs : List Loc) (ls : Array Slot), Wd D A s.heap ((wMa cs a (aT 0) (aS 0) (aD 0) (aG 0) (aR 0) (aE 0) μ ++ (wSc cs aS (aT 0) ς ++ (wTe cs aT τ ++ (wRo cs aE ε ++ (wGa cs aG (aD 0) (aR 0) γ Γ ++ (wDa cs aD dr' δ' ++ (wRo cs aR ρ))))))) ++ (wMo cs aM σ' Λ)) H locs → lv_has ls 4 [(0, .ref b), (1, .ref (a 0)), (2, .ref (aM 0)), (3, .int x3)] → W p l e room_1 s m args below meth c H locs 47 4456 Q (F0 m 967 ls [])) : ∀ (H : Heap) (locs : List Loc) (ls : Array Slot), Wd D A s.heap ((wMa cs a (aT 0) (aS 0) (aD 0) (aG 0) (aR 0) (aE 0) μ ++ (wSc cs aS (aT 0) ς ++ (wTe cs aT τ ++ (wRo cs aE ε ++ (wGa cs aG (aD 0) (aR 0) γ Γ ++ (wDa cs aD dr δ ++ (wRo cs aR ρ))))))) ++ (wMo cs aM σ Λ)) H locs → lv_has ls 4 [(0, .ref b), (1, .ref (a 0)), (2, .ref (aM 0)), (3, .int x3)] → W p l e room_1 s m args below meth c H locs 47 4456 Q (F0 m 633 ls []) := by
  intro H locs ls hW hl
  refine lv_aload_n S.1 S.2.1 dL_law_633 rfl (lv_at hl 1 rfl) ?_
  refine lv_aload_n S.1 S.2.1 dL_law_634 rfl (lv_at hl 0 rfl) ?_
  refine lv_iload_n S.1 S.2.1 dL_law_635 rfl (lv_at hl 3 rfl) ?_
  refine lv_iconst (v := 1) S.1 S.2.1 dL_law_636 (by decide) ?_
  refine lv_iadd S.1 S.2.1 dL_law_637 ?_
  refine va_sld S.1 S.2.1 hX hbl hbA hW.2.2 hi1 dL_law_638 ?_
  refine lv_aload_n S.1 S.2.1 dL_law_639 rfl (lv_at hl 0 rfl) ?_
  refine lv_iload_n S.1 S.2.1 dL_law_640 rfl (lv_at hl 3 rfl) ?_
  refine lv_iconst (v := 2) S.1 S.2.1 dL_law_641 (by decide) ?_
  refine lv_iadd S.1 S.2.1 dL_law_642 ?_
  refine va_sld S.1 S.2.1 hX hbl hbA hW.2.2 hi2 dL_law_643 ?_
  refine kV_i (As := [.int (xs (x3 + 1).toNatClampNeg), .int (xs (x3 + 2).toNatClampNeg)]) (rest := []) S hK hA (z := none) trivial [] (wMo cs aM σ Λ) hW (cMa_often l D cs a aS aT aE aG aD aR μ ς τ ε γ Γ δ ρ dr (xs (x3 + 1).toNatClampNeg) (xs (x3 + 2).toNatClampNeg) N hx) (ci := 5) rfl rfl lk_L_82 q584 q585 ⟨Nat.le_of_ble_eq_true rfl, Nat.le_of_ble_eq_true rfl⟩ rfl (Nat.le_of_ble_eq_true rfl) hl.1 dL_law_644 ⟨Nat.le_of_ble_eq_true rfl, Nat.le_of_ble_eq_true rfl⟩ (fun H locs hW => ?_)
  have hW : Wd D A s.heap ((wMa cs a (aT 0) (aS 0) (aD 0) (aG 0) (aR 0) (aE 0) μ ++ (wSc cs aS (aT 0) ς ++ (wTe cs aT τ ++ (wRo cs aE ε ++ (wGa cs aG (aD 0) (aR 0) γ Γ ++ (wDa cs aD dr' δ' ++ (wRo cs aR ρ))))))) ++ (wMo cs aM σ Λ)) H locs := hW
  refine lv_aload_n S.1 S.2.1 dL_law_647 rfl (lv_at hl 2 rfl) ?_
  refine lv_aload_n S.1 S.2.1 dL_law_648 rfl (lv_at hl 0 rfl) ?_
  refine lv_iload_n S.1 S.2.1 dL_law_649 rfl (lv_at hl 3 rfl) ?_
  refine lv_iconst (v := 1) S.1 S.2.1 dL_law_650 (by decide) ?_
  refine lv_iadd S.1 S.2.1 dL_law_651 ?_
  refine va_sld S.1 S.2.1 hX hbl hbA hW.2.2 hi1 dL_law_652 ?_
  refine lv_aload_n S.1 S.2.1 dL_law_653 rfl (lv_at hl 0 rfl) ?_
  refine lv_iload_n S.1 S.2.1 dL_law_654 rfl (lv_at hl 3 rfl) ?_
  refine lv_iconst (v := 2) S.1 S.2.1 dL_law_655 (by decide) ?_
  refine lv_iadd S.1 S.2.1 dL_law_656 ?_
  refine va_sld S.1 S.2.1 hX hbl hbA hW.2.2 hi2 dL_law_657 ?_
  have hW := kw (w' := (wMa cs a (aT 0) (aS 0) (aD 0) (aG 0) (aR 0) (aE 0) μ ++ (wSc cs aS (aT 0) ς ++ (wTe cs aT τ ++ (wRo cs aE ε ++ (wGa cs aG (aD 0) (aR 0) γ Γ ++ (wDa cs aD dr' δ' ++ (wRo cs aR ρ))))))) ++ ((wMo cs aM σ Λ) ++ [])) (by rw [List.append_nil]) hW
  refine kV_i (As := [.int (xs (x3 + 1).toNatClampNeg), .int (xs (x3 + 2).toNatClampNeg)]) (rest := [.int r]) S hK hA (z := none) trivial ((wMa cs a (aT 0) (aS 0) (aD 0) (aG 0) (aR 0) (aE 0) μ ++ (wSc cs aS (aT 0) ς ++ (wTe cs aT τ ++ (wRo cs aE ε ++ (wGa cs aG (aD 0) (aR 0) γ Γ ++ (wDa cs aD dr' δ' ++ (wRo cs aR ρ)))))))) [] hW (cMo_often l D cs aM σ Λ (xs (x3 + 1).toNatClampNeg) (xs (x3 + 2).toNatClampNeg) N hm) (ci := 6) rfl rfl lk_L_85 q925 q926 ⟨Nat.le_of_ble_eq_true rfl, Nat.le_of_ble_eq_true rfl⟩ rfl (Nat.le_of_ble_eq_true rfl) hl.1 dL_law_658 ⟨Nat.le_of_ble_eq_true rfl, Nat.le_of_ble_eq_true rfl⟩ (fun H locs hW => ?_)
  have hW : Wd D A s.heap ((wMa cs a (aT 0) (aS 0) (aD 0) (aG 0) (aR 0) (aE 0) μ ++ (wSc cs aS (aT 0) ς ++ (wTe cs aT τ ++ (wRo cs aE ε ++ (wGa cs aG (aD 0) (aR 0) γ Γ ++ (wDa cs aD dr' δ' ++ (wRo cs aR ρ))))))) ++ (wMo cs aM σ' Λ)) H locs := kw (by rw [List.append_nil]) hW
  refine lv_icmp_eq (tgt := 967) S.1 S.2.1 dL_law_661 (by decide) (fun c9 => ?_) (fun c9 => ?_)
  · exact hk _ _ _ hW hl
  · exact absurd rfl c9
set_option maxHeartbeats 4000000 in
set_option maxRecDepth 100000 in
theorem wLaw_16 {p : Program} {l : Launch} {e : Env} {s : State} {m : MethodId} {args : Array Value} {below : List Frame} {meth : Method} {c : Code} {A : Nat → Prop} {Q : State → Prop} {D : va_G} {cs : Nat → ClassId} {fs a aS aT aE aG aD aR aM : Nat → Nat} {μ ς τ ε γ : St} {Γ : Nat → Int64} {δ ρ σ : St} {Λ : Nat → Int64} {dr b L N : Nat} {xs : Nat → Int32} {x3 : Int32} {r : Int32} {δ' : St} {dr' : Nat} {σ' : St} (S : Fx p m c cL_law 4 s args RL) (hK : va_K D vwCl (tyL cs) s) (hA : ∀ x, s.heap.size ≤ x → A x) (hZ : Zf fs A s s.heap) (hX : va_X b L xs s s.heap) (hbl : b < s.heap.size) (hbA : ¬ A b) (hi1 : vp_in (x3 + 1) L) (hi2 : vp_in (x3 + 2) L) (hi3 : vp_in (x3 + 3) L) (hi4 : vp_in (x3 + 4) L) (hx : fMa_porter N (xs (x3 + 1).toNatClampNeg) μ ρ (aR 0) δ dr = some (r, δ', dr')) (hm : fMo_porter N (xs (x3 + 1).toNatClampNeg) σ = some (r, σ')) (hk : ∀ (H : Heap) (locs : List Loc) (ls : Array Slot), Wd D A s.heap ((wMa cs a (aT 0) (aS 0) (aD 0) (aG 0) (aR 0) (aE 0) μ ++ (wSc cs aS (aT 0) ς ++ (wTe cs aT τ ++ (wRo cs aE ε ++ (wGa cs aG (aD 0) (aR 0) γ Γ ++ (wDa cs aD dr' δ' ++ (wRo cs aR ρ))))))) ++ (wMo cs aM σ' Λ)) H locs → lv_has ls 4 [(0, .ref b), (1, .ref (a 0)), (2, .ref (aM 0)), (3, .int x3)] → W p l e room_1 s m args below meth c H locs 47 4456 Q (F0 m 967 ls [])) : ∀ (H : Heap) (locs : List Loc) (ls : Array Slot), Wd D A s.heap ((wMa cs a (aT 0) (aS 0) (aD 0) (aG 0) (aR 0) (aE 0) μ ++ (wSc cs aS (aT 0) ς ++ (wTe cs aT τ ++ (wRo cs aE ε ++ (wGa cs aG (aD 0) (aR 0) γ Γ ++ (wDa cs aD dr δ ++ (wRo cs aR ρ))))))) ++ (wMo cs aM σ Λ)) H locs → lv_has ls 4 [(0, .ref b), (1, .ref (a 0)), (2, .ref (aM 0)), (3, .int x3)] → W p l e room_1 s m args below meth c H locs 47 4456 Q (F0 m 666 ls []) := by
  intro H locs ls hW hl
  refine lv_aload_n S.1 S.2.1 dL_law_666 rfl (lv_at hl 1 rfl) ?_
  refine lv_aload_n S.1 S.2.1 dL_law_667 rfl (lv_at hl 0 rfl) ?_
  refine lv_iload_n S.1 S.2.1 dL_law_668 rfl (lv_at hl 3 rfl) ?_
  refine lv_iconst (v := 1) S.1 S.2.1 dL_law_669 (by decide) ?_
  refine lv_iadd S.1 S.2.1 dL_law_670 ?_
  refine va_sld S.1 S.2.1 hX hbl hbA hW.2.2 hi1 dL_law_671 ?_
  refine kV_i (As := [.int (xs (x3 + 1).toNatClampNeg)]) (rest := []) S hK hA (z := none) trivial [] (wMo cs aM σ Λ) hW (cMa_porter l D cs a aS aT aE aG aD aR μ ς τ ε γ Γ δ ρ dr (xs (x3 + 1).toNatClampNeg) N hx) (ci := 5) rfl rfl lk_L_86 q591 q592 ⟨Nat.le_of_ble_eq_true rfl, Nat.le_of_ble_eq_true rfl⟩ rfl (Nat.le_of_ble_eq_true rfl) hl.1 dL_law_672 ⟨Nat.le_of_ble_eq_true rfl, Nat.le_of_ble_eq_true rfl⟩ (fun H locs hW => ?_)
  have hW : Wd D A s.heap ((wMa cs a (aT 0) (aS 0) (aD 0) (aG 0) (aR 0) (aE 0) μ ++ (wSc cs aS (aT 0) ς ++ (wTe cs aT τ ++ (wRo cs aE ε ++ (wGa cs aG (aD 0) (aR 0) γ Γ ++ (wDa cs aD dr' δ' ++ (wRo cs aR ρ))))))) ++ (wMo cs aM σ Λ)) H locs := hW
  refine lv_aload_n S.1 S.2.1 dL_law_675 rfl (lv_at hl 2 rfl) ?_
  refine lv_aload_n S.1 S.2.1 dL_law_676 rfl (lv_at hl 0 rfl) ?_
  refine lv_iload_n S.1 S.2.1 dL_law_677 rfl (lv_at hl 3 rfl) ?_
  refine lv_iconst (v := 1) S.1 S.2.1 dL_law_678 (by decide) ?_
  refine lv_iadd S.1 S.2.1 dL_law_679 ?_
  refine va_sld S.1 S.2.1 hX hbl hbA hW.2.2 hi1 dL_law_680 ?_
  have hW := kw (w' := (wMa cs a (aT 0) (aS 0) (aD 0) (aG 0) (aR 0) (aE 0) μ ++ (wSc cs aS (aT 0) ς ++ (wTe cs aT τ ++ (wRo cs aE ε ++ (wGa cs aG (aD 0) (aR 0) γ Γ ++ (wDa cs aD dr' δ' ++ (wRo cs aR ρ))))))) ++ ((wMo cs aM σ Λ) ++ [])) (by rw [List.append_nil]) hW
  refine kV_i (As := [.int (xs (x3 + 1).toNatClampNeg)]) (rest := [.int r]) S hK hA (z := none) trivial ((wMa cs a (aT 0) (aS 0) (aD 0) (aG 0) (aR 0) (aE 0) μ ++ (wSc cs aS (aT 0) ς ++ (wTe cs aT τ ++ (wRo cs aE ε ++ (wGa cs aG (aD 0) (aR 0) γ Γ ++ (wDa cs aD dr' δ' ++ (wRo cs aR ρ)))))))) [] hW (cMo_porter l D cs aM σ Λ (xs (x3 + 1).toNatClampNeg) N hm) (ci := 6) rfl rfl lk_L_89 q930 q931 ⟨Nat.le_of_ble_eq_true rfl, Nat.le_of_ble_eq_true rfl⟩ rfl (Nat.le_of_ble_eq_true rfl) hl.1 dL_law_681 ⟨Nat.le_of_ble_eq_true rfl, Nat.le_of_ble_eq_true rfl⟩ (fun H locs hW => ?_)
  have hW : Wd D A s.heap ((wMa cs a (aT 0) (aS 0) (aD 0) (aG 0) (aR 0) (aE 0) μ ++ (wSc cs aS (aT 0) ς ++ (wTe cs aT τ ++ (wRo cs aE ε ++ (wGa cs aG (aD 0) (aR 0) γ Γ ++ (wDa cs aD dr' δ' ++ (wRo cs aR ρ))))))) ++ (wMo cs aM σ' Λ)) H locs := kw (by rw [List.append_nil]) hW
  refine lv_icmp_eq (tgt := 967) S.1 S.2.1 dL_law_684 (by decide) (fun c9 => ?_) (fun c9 => ?_)
  · exact hk _ _ _ hW hl
  · exact absurd rfl c9
set_option maxHeartbeats 4000000 in
set_option maxRecDepth 100000 in
theorem wLaw_17 {p : Program} {l : Launch} {e : Env} {s : State} {m : MethodId} {args : Array Value} {below : List Frame} {meth : Method} {c : Code} {A : Nat → Prop} {Q : State → Prop} {D : va_G} {cs : Nat → ClassId} {fs a aS aT aE aG aD aR aM : Nat → Nat} {μ ς τ ε γ : St} {Γ : Nat → Int64} {δ ρ σ : St} {Λ : Nat → Int64} {dr b L N : Nat} {xs : Nat → Int32} {x3 : Int32} {r : Int32} {δ' : St} {dr' : Nat} {σ' : St} (S : Fx p m c cL_law 4 s args RL) (hK : va_K D vwCl (tyL cs) s) (hA : ∀ x, s.heap.size ≤ x → A x) (hZ : Zf fs A s s.heap) (hX : va_X b L xs s s.heap) (hbl : b < s.heap.size) (hbA : ¬ A b) (hi1 : vp_in (x3 + 1) L) (hi2 : vp_in (x3 + 2) L) (hi3 : vp_in (x3 + 3) L) (hi4 : vp_in (x3 + 4) L) (hx : fMa_card N (xs (x3 + 1).toNatClampNeg) μ ρ (aR 0) δ dr = some (r, δ', dr')) (hm : fMo_card N (xs (x3 + 1).toNatClampNeg) σ = some (r, σ')) (hk : ∀ (H : Heap) (locs : List Loc) (ls : Array Slot), Wd D A s.heap ((wMa cs a (aT 0) (aS 0) (aD 0) (aG 0) (aR 0) (aE 0) μ ++ (wSc cs aS (aT 0) ς ++ (wTe cs aT τ ++ (wRo cs aE ε ++ (wGa cs aG (aD 0) (aR 0) γ Γ ++ (wDa cs aD dr' δ' ++ (wRo cs aR ρ))))))) ++ (wMo cs aM σ' Λ)) H locs → lv_has ls 4 [(0, .ref b), (1, .ref (a 0)), (2, .ref (aM 0)), (3, .int x3)] → W p l e room_1 s m args below meth c H locs 47 4456 Q (F0 m 967 ls [])) : ∀ (H : Heap) (locs : List Loc) (ls : Array Slot), Wd D A s.heap ((wMa cs a (aT 0) (aS 0) (aD 0) (aG 0) (aR 0) (aE 0) μ ++ (wSc cs aS (aT 0) ς ++ (wTe cs aT τ ++ (wRo cs aE ε ++ (wGa cs aG (aD 0) (aR 0) γ Γ ++ (wDa cs aD dr δ ++ (wRo cs aR ρ))))))) ++ (wMo cs aM σ Λ)) H locs → lv_has ls 4 [(0, .ref b), (1, .ref (a 0)), (2, .ref (aM 0)), (3, .int x3)] → W p l e room_1 s m args below meth c H locs 47 4456 Q (F0 m 689 ls []) := by
  intro H locs ls hW hl
  refine lv_aload_n S.1 S.2.1 dL_law_689 rfl (lv_at hl 1 rfl) ?_
  refine lv_aload_n S.1 S.2.1 dL_law_690 rfl (lv_at hl 0 rfl) ?_
  refine lv_iload_n S.1 S.2.1 dL_law_691 rfl (lv_at hl 3 rfl) ?_
  refine lv_iconst (v := 1) S.1 S.2.1 dL_law_692 (by decide) ?_
  refine lv_iadd S.1 S.2.1 dL_law_693 ?_
  refine va_sld S.1 S.2.1 hX hbl hbA hW.2.2 hi1 dL_law_694 ?_
  refine kV_i (As := [.int (xs (x3 + 1).toNatClampNeg)]) (rest := []) S hK hA (z := none) trivial [] (wMo cs aM σ Λ) hW (cMa_card l D cs a aS aT aE aG aD aR μ ς τ ε γ Γ δ ρ dr (xs (x3 + 1).toNatClampNeg) N hx) (ci := 5) rfl rfl lk_L_90 q601 q602 ⟨Nat.le_of_ble_eq_true rfl, Nat.le_of_ble_eq_true rfl⟩ rfl (Nat.le_of_ble_eq_true rfl) hl.1 dL_law_695 ⟨Nat.le_of_ble_eq_true rfl, Nat.le_of_ble_eq_true rfl⟩ (fun H locs hW => ?_)
  have hW : Wd D A s.heap ((wMa cs a (aT 0) (aS 0) (aD 0) (aG 0) (aR 0) (aE 0) μ ++ (wSc cs aS (aT 0) ς ++ (wTe cs aT τ ++ (wRo cs aE ε ++ (wGa cs aG (aD 0) (aR 0) γ Γ ++ (wDa cs aD dr' δ' ++ (wRo cs aR ρ))))))) ++ (wMo cs aM σ Λ)) H locs := hW
  refine lv_aload_n S.1 S.2.1 dL_law_698 rfl (lv_at hl 2 rfl) ?_
  refine lv_aload_n S.1 S.2.1 dL_law_699 rfl (lv_at hl 0 rfl) ?_
  refine lv_iload_n S.1 S.2.1 dL_law_700 rfl (lv_at hl 3 rfl) ?_
  refine lv_iconst (v := 1) S.1 S.2.1 dL_law_701 (by decide) ?_
  refine lv_iadd S.1 S.2.1 dL_law_702 ?_
  refine va_sld S.1 S.2.1 hX hbl hbA hW.2.2 hi1 dL_law_703 ?_
  have hW := kw (w' := (wMa cs a (aT 0) (aS 0) (aD 0) (aG 0) (aR 0) (aE 0) μ ++ (wSc cs aS (aT 0) ς ++ (wTe cs aT τ ++ (wRo cs aE ε ++ (wGa cs aG (aD 0) (aR 0) γ Γ ++ (wDa cs aD dr' δ' ++ (wRo cs aR ρ))))))) ++ ((wMo cs aM σ Λ) ++ [])) (by rw [List.append_nil]) hW
  refine kV_i (As := [.int (xs (x3 + 1).toNatClampNeg)]) (rest := [.int r]) S hK hA (z := none) trivial ((wMa cs a (aT 0) (aS 0) (aD 0) (aG 0) (aR 0) (aE 0) μ ++ (wSc cs aS (aT 0) ς ++ (wTe cs aT τ ++ (wRo cs aE ε ++ (wGa cs aG (aD 0) (aR 0) γ Γ ++ (wDa cs aD dr' δ' ++ (wRo cs aR ρ)))))))) [] hW (cMo_card l D cs aM σ Λ (xs (x3 + 1).toNatClampNeg) N hm) (ci := 6) rfl rfl lk_L_93 q934 q935 ⟨Nat.le_of_ble_eq_true rfl, Nat.le_of_ble_eq_true rfl⟩ rfl (Nat.le_of_ble_eq_true rfl) hl.1 dL_law_704 ⟨Nat.le_of_ble_eq_true rfl, Nat.le_of_ble_eq_true rfl⟩ (fun H locs hW => ?_)
  have hW : Wd D A s.heap ((wMa cs a (aT 0) (aS 0) (aD 0) (aG 0) (aR 0) (aE 0) μ ++ (wSc cs aS (aT 0) ς ++ (wTe cs aT τ ++ (wRo cs aE ε ++ (wGa cs aG (aD 0) (aR 0) γ Γ ++ (wDa cs aD dr' δ' ++ (wRo cs aR ρ))))))) ++ (wMo cs aM σ' Λ)) H locs := kw (by rw [List.append_nil]) hW
  refine lv_icmp_eq (tgt := 967) S.1 S.2.1 dL_law_707 (by decide) (fun c9 => ?_) (fun c9 => ?_)
  · exact hk _ _ _ hW hl
  · exact absurd rfl c9
set_option maxHeartbeats 4000000 in
set_option maxRecDepth 100000 in
theorem wLaw_18 {p : Program} {l : Launch} {e : Env} {s : State} {m : MethodId} {args : Array Value} {below : List Frame} {meth : Method} {c : Code} {A : Nat → Prop} {Q : State → Prop} {D : va_G} {cs : Nat → ClassId} {fs a aS aT aE aG aD aR aM : Nat → Nat} {μ ς τ ε γ : St} {Γ : Nat → Int64} {δ ρ σ : St} {Λ : Nat → Int64} {dr b L N : Nat} {xs : Nat → Int32} {x3 : Int32} {r : Int64} {Λ' : Nat → Int64} (S : Fx p m c cL_law 4 s args RL) (hK : va_K D vwCl (tyL cs) s) (hA : ∀ x, s.heap.size ≤ x → A x) (hZ : Zf fs A s s.heap) (hX : va_X b L xs s s.heap) (hbl : b < s.heap.size) (hbA : ¬ A b) (hi1 : vp_in (x3 + 1) L) (hi2 : vp_in (x3 + 2) L) (hi3 : vp_in (x3 + 3) L) (hi4 : vp_in (x3 + 4) L) (hx : fMa_booked N (xs (x3 + 1).toNatClampNeg) (xs (x3 + 2).toNatClampNeg) (xs (x3 + 3).toNatClampNeg) (xs (x3 + 4).toNatClampNeg) = some r) (hm : fMo_booked N (xs (x3 + 1).toNatClampNeg) (xs (x3 + 2).toNatClampNeg) (xs (x3 + 3).toNatClampNeg) (xs (x3 + 4).toNatClampNeg) Λ = some (r, Λ')) (hk : ∀ (H : Heap) (locs : List Loc) (ls : Array Slot), Wd D A s.heap ((wMa cs a (aT 0) (aS 0) (aD 0) (aG 0) (aR 0) (aE 0) μ ++ (wSc cs aS (aT 0) ς ++ (wTe cs aT τ ++ (wRo cs aE ε ++ (wGa cs aG (aD 0) (aR 0) γ Γ ++ (wDa cs aD dr δ ++ (wRo cs aR ρ))))))) ++ (wMo cs aM σ Λ')) H locs → lv_has ls 4 [(0, .ref b), (1, .ref (a 0)), (2, .ref (aM 0)), (3, .int x3)] → W p l e room_1 s m args below meth c H locs 47 4456 Q (F0 m 967 ls [])) : ∀ (H : Heap) (locs : List Loc) (ls : Array Slot), Wd D A s.heap ((wMa cs a (aT 0) (aS 0) (aD 0) (aG 0) (aR 0) (aE 0) μ ++ (wSc cs aS (aT 0) ς ++ (wTe cs aT τ ++ (wRo cs aE ε ++ (wGa cs aG (aD 0) (aR 0) γ Γ ++ (wDa cs aD dr δ ++ (wRo cs aR ρ))))))) ++ (wMo cs aM σ Λ)) H locs → lv_has ls 4 [(0, .ref b), (1, .ref (a 0)), (2, .ref (aM 0)), (3, .int x3)] → W p l e room_1 s m args below meth c H locs 47 4456 Q (F0 m 712 ls []) := by
  intro H locs ls hW hl
  refine lv_aload_n S.1 S.2.1 dL_law_712 rfl (lv_at hl 1 rfl) ?_
  refine lv_aload_n S.1 S.2.1 dL_law_713 rfl (lv_at hl 0 rfl) ?_
  refine lv_iload_n S.1 S.2.1 dL_law_714 rfl (lv_at hl 3 rfl) ?_
  refine lv_iconst (v := 1) S.1 S.2.1 dL_law_715 (by decide) ?_
  refine lv_iadd S.1 S.2.1 dL_law_716 ?_
  refine va_sld S.1 S.2.1 hX hbl hbA hW.2.2 hi1 dL_law_717 ?_
  refine lv_aload_n S.1 S.2.1 dL_law_718 rfl (lv_at hl 0 rfl) ?_
  refine lv_iload_n S.1 S.2.1 dL_law_719 rfl (lv_at hl 3 rfl) ?_
  refine lv_iconst (v := 2) S.1 S.2.1 dL_law_720 (by decide) ?_
  refine lv_iadd S.1 S.2.1 dL_law_721 ?_
  refine va_sld S.1 S.2.1 hX hbl hbA hW.2.2 hi2 dL_law_722 ?_
  refine lv_aload_n S.1 S.2.1 dL_law_723 rfl (lv_at hl 0 rfl) ?_
  refine lv_iload_n S.1 S.2.1 dL_law_724 rfl (lv_at hl 3 rfl) ?_
  refine lv_iconst (v := 3) S.1 S.2.1 dL_law_725 (by decide) ?_
  refine lv_iadd S.1 S.2.1 dL_law_726 ?_
  refine va_sld S.1 S.2.1 hX hbl hbA hW.2.2 hi3 dL_law_727 ?_
  refine lv_aload_n S.1 S.2.1 dL_law_728 rfl (lv_at hl 0 rfl) ?_
  refine lv_iload_n S.1 S.2.1 dL_law_729 rfl (lv_at hl 3 rfl) ?_
  refine lv_iconst (v := 4) S.1 S.2.1 dL_law_730 (by decide) ?_
  refine lv_iadd S.1 S.2.1 dL_law_731 ?_
  refine va_sld S.1 S.2.1 hX hbl hbA hW.2.2 hi4 dL_law_732 ?_
  refine kV_l (As := [.int (xs (x3 + 1).toNatClampNeg), .int (xs (x3 + 2).toNatClampNeg), .int (xs (x3 + 3).toNatClampNeg), .int (xs (x3 + 4).toNatClampNeg)]) (rest := []) S hK hA (z := none) trivial [] (wMo cs aM σ Λ) hW (cMa_booked l D cs a aS aT aE aG aD aR μ ς τ ε γ Γ δ ρ dr (xs (x3 + 1).toNatClampNeg) (xs (x3 + 2).toNatClampNeg) (xs (x3 + 3).toNatClampNeg) (xs (x3 + 4).toNatClampNeg) N hx) (ci := 5) rfl rfl lk_L_94 q606 q607 ⟨Nat.le_of_ble_eq_true rfl, Nat.le_of_ble_eq_true rfl⟩ rfl (Nat.le_of_ble_eq_true rfl) hl.1 dL_law_733 ⟨Nat.le_of_ble_eq_true rfl, Nat.le_of_ble_eq_true rfl⟩ (fun H locs hW => ?_)
  have hW : Wd D A s.heap ((wMa cs a (aT 0) (aS 0) (aD 0) (aG 0) (aR 0) (aE 0) μ ++ (wSc cs aS (aT 0) ς ++ (wTe cs aT τ ++ (wRo cs aE ε ++ (wGa cs aG (aD 0) (aR 0) γ Γ ++ (wDa cs aD dr δ ++ (wRo cs aR ρ))))))) ++ (wMo cs aM σ Λ)) H locs := hW
  refine lv_aload_n S.1 S.2.1 dL_law_736 rfl (lv_at hl 2 rfl) ?_
  refine lv_aload_n S.1 S.2.1 dL_law_737 rfl (lv_at hl 0 rfl) ?_
  refine lv_iload_n S.1 S.2.1 dL_law_738 rfl (lv_at hl 3 rfl) ?_
  refine lv_iconst (v := 1) S.1 S.2.1 dL_law_739 (by decide) ?_
  refine lv_iadd S.1 S.2.1 dL_law_740 ?_
  refine va_sld S.1 S.2.1 hX hbl hbA hW.2.2 hi1 dL_law_741 ?_
  refine lv_aload_n S.1 S.2.1 dL_law_742 rfl (lv_at hl 0 rfl) ?_
  refine lv_iload_n S.1 S.2.1 dL_law_743 rfl (lv_at hl 3 rfl) ?_
  refine lv_iconst (v := 2) S.1 S.2.1 dL_law_744 (by decide) ?_
  refine lv_iadd S.1 S.2.1 dL_law_745 ?_
  refine va_sld S.1 S.2.1 hX hbl hbA hW.2.2 hi2 dL_law_746 ?_
  refine lv_aload_n S.1 S.2.1 dL_law_747 rfl (lv_at hl 0 rfl) ?_
  refine lv_iload_n S.1 S.2.1 dL_law_748 rfl (lv_at hl 3 rfl) ?_
  refine lv_iconst (v := 3) S.1 S.2.1 dL_law_749 (by decide) ?_
  refine lv_iadd S.1 S.2.1 dL_law_750 ?_
  refine va_sld S.1 S.2.1 hX hbl hbA hW.2.2 hi3 dL_law_751 ?_
  refine lv_aload_n S.1 S.2.1 dL_law_752 rfl (lv_at hl 0 rfl) ?_
  refine lv_iload_n S.1 S.2.1 dL_law_753 rfl (lv_at hl 3 rfl) ?_
  refine lv_iconst (v := 4) S.1 S.2.1 dL_law_754 (by decide) ?_
  refine lv_iadd S.1 S.2.1 dL_law_755 ?_
  refine va_sld S.1 S.2.1 hX hbl hbA hW.2.2 hi4 dL_law_756 ?_
  have hW := kw (w' := (wMa cs a (aT 0) (aS 0) (aD 0) (aG 0) (aR 0) (aE 0) μ ++ (wSc cs aS (aT 0) ς ++ (wTe cs aT τ ++ (wRo cs aE ε ++ (wGa cs aG (aD 0) (aR 0) γ Γ ++ (wDa cs aD dr δ ++ (wRo cs aR ρ))))))) ++ ((wMo cs aM σ Λ) ++ [])) (by rw [List.append_nil]) hW
  refine kV_l (As := [.int (xs (x3 + 1).toNatClampNeg), .int (xs (x3 + 2).toNatClampNeg), .int (xs (x3 + 3).toNatClampNeg), .int (xs (x3 + 4).toNatClampNeg)]) (rest := [.long r]) S hK hA (z := none) trivial ((wMa cs a (aT 0) (aS 0) (aD 0) (aG 0) (aR 0) (aE 0) μ ++ (wSc cs aS (aT 0) ς ++ (wTe cs aT τ ++ (wRo cs aE ε ++ (wGa cs aG (aD 0) (aR 0) γ Γ ++ (wDa cs aD dr δ ++ (wRo cs aR ρ)))))))) [] hW (cMo_booked l D cs aM σ Λ (xs (x3 + 1).toNatClampNeg) (xs (x3 + 2).toNatClampNeg) (xs (x3 + 3).toNatClampNeg) (xs (x3 + 4).toNatClampNeg) N hm) (ci := 6) rfl rfl lk_L_98 q938 q939 ⟨Nat.le_of_ble_eq_true rfl, Nat.le_of_ble_eq_true rfl⟩ rfl (Nat.le_of_ble_eq_true rfl) hl.1 dL_law_757 ⟨Nat.le_of_ble_eq_true rfl, Nat.le_of_ble_eq_true rfl⟩ (fun H locs hW => ?_)
  have hW : Wd D A s.heap ((wMa cs a (aT 0) (aS 0) (aD 0) (aG 0) (aR 0) (aE 0) μ ++ (wSc cs aS (aT 0) ς ++ (wTe cs aT τ ++ (wRo cs aE ε ++ (wGa cs aG (aD 0) (aR 0) γ Γ ++ (wDa cs aD dr δ ++ (wRo cs aR ρ))))))) ++ (wMo cs aM σ Λ')) H locs := kw (by rw [List.append_nil]) hW
  refine W.lcmp S.1 S.2.1 dL_law_760 ?_
  refine lv_if_eq (tgt := 967) S.1 S.2.1 dL_law_761 (by decide) (fun c9 => ?_) (fun c9 => ?_)
  · exact hk _ _ _ hW hl
  · exact absurd (by simp [lg_cmp]) c9
set_option maxHeartbeats 4000000 in
set_option maxRecDepth 100000 in
theorem wLaw_19 {p : Program} {l : Launch} {e : Env} {s : State} {m : MethodId} {args : Array Value} {below : List Frame} {meth : Method} {c : Code} {A : Nat → Prop} {Q : State → Prop} {D : va_G} {cs : Nat → ClassId} {fs a aS aT aE aG aD aR aM : Nat → Nat} {μ ς τ ε γ : St} {Γ : Nat → Int64} {δ ρ σ : St} {Λ : Nat → Int64} {dr b L N : Nat} {xs : Nat → Int32} {x3 : Int32} {r : Int32} (S : Fx p m c cL_law 4 s args RL) (hK : va_K D vwCl (tyL cs) s) (hA : ∀ x, s.heap.size ≤ x → A x) (hZ : Zf fs A s s.heap) (hX : va_X b L xs s s.heap) (hbl : b < s.heap.size) (hbA : ¬ A b) (hi1 : vp_in (x3 + 1) L) (hi2 : vp_in (x3 + 2) L) (hi3 : vp_in (x3 + 3) L) (hi4 : vp_in (x3 + 4) L) (hx : fMa_over N (xs (x3 + 1).toNatClampNeg) (xs (x3 + 2).toNatClampNeg) (xs (x3 + 3).toNatClampNeg) = some r) (hm : fMo_over N (xs (x3 + 1).toNatClampNeg) (xs (x3 + 2).toNatClampNeg) (xs (x3 + 3).toNatClampNeg) = some r) (hk : ∀ (H : Heap) (locs : List Loc) (ls : Array Slot), Wd D A s.heap ((wMa cs a (aT 0) (aS 0) (aD 0) (aG 0) (aR 0) (aE 0) μ ++ (wSc cs aS (aT 0) ς ++ (wTe cs aT τ ++ (wRo cs aE ε ++ (wGa cs aG (aD 0) (aR 0) γ Γ ++ (wDa cs aD dr δ ++ (wRo cs aR ρ))))))) ++ (wMo cs aM σ Λ)) H locs → lv_has ls 4 [(0, .ref b), (1, .ref (a 0)), (2, .ref (aM 0)), (3, .int x3)] → W p l e room_1 s m args below meth c H locs 47 4456 Q (F0 m 967 ls [])) : ∀ (H : Heap) (locs : List Loc) (ls : Array Slot), Wd D A s.heap ((wMa cs a (aT 0) (aS 0) (aD 0) (aG 0) (aR 0) (aE 0) μ ++ (wSc cs aS (aT 0) ς ++ (wTe cs aT τ ++ (wRo cs aE ε ++ (wGa cs aG (aD 0) (aR 0) γ Γ ++ (wDa cs aD dr δ ++ (wRo cs aR ρ))))))) ++ (wMo cs aM σ Λ)) H locs → lv_has ls 4 [(0, .ref b), (1, .ref (a 0)), (2, .ref (aM 0)), (3, .int x3)] → W p l e room_1 s m args below meth c H locs 47 4456 Q (F0 m 766 ls []) := by
  intro H locs ls hW hl
  refine lv_aload_n S.1 S.2.1 dL_law_766 rfl (lv_at hl 1 rfl) ?_
  refine lv_aload_n S.1 S.2.1 dL_law_767 rfl (lv_at hl 0 rfl) ?_
  refine lv_iload_n S.1 S.2.1 dL_law_768 rfl (lv_at hl 3 rfl) ?_
  refine lv_iconst (v := 1) S.1 S.2.1 dL_law_769 (by decide) ?_
  refine lv_iadd S.1 S.2.1 dL_law_770 ?_
  refine va_sld S.1 S.2.1 hX hbl hbA hW.2.2 hi1 dL_law_771 ?_
  refine lv_aload_n S.1 S.2.1 dL_law_772 rfl (lv_at hl 0 rfl) ?_
  refine lv_iload_n S.1 S.2.1 dL_law_773 rfl (lv_at hl 3 rfl) ?_
  refine lv_iconst (v := 2) S.1 S.2.1 dL_law_774 (by decide) ?_
  refine lv_iadd S.1 S.2.1 dL_law_775 ?_
  refine va_sld S.1 S.2.1 hX hbl hbA hW.2.2 hi2 dL_law_776 ?_
  refine lv_aload_n S.1 S.2.1 dL_law_777 rfl (lv_at hl 0 rfl) ?_
  refine lv_iload_n S.1 S.2.1 dL_law_778 rfl (lv_at hl 3 rfl) ?_
  refine lv_iconst (v := 3) S.1 S.2.1 dL_law_779 (by decide) ?_
  refine lv_iadd S.1 S.2.1 dL_law_780 ?_
  refine va_sld S.1 S.2.1 hX hbl hbA hW.2.2 hi3 dL_law_781 ?_
  refine kV_i (As := [.int (xs (x3 + 1).toNatClampNeg), .int (xs (x3 + 2).toNatClampNeg), .int (xs (x3 + 3).toNatClampNeg)]) (rest := []) S hK hA (z := none) trivial [] (wMo cs aM σ Λ) hW (cMa_over l D cs a aS aT aE aG aD aR μ ς τ ε γ Γ δ ρ dr (xs (x3 + 1).toNatClampNeg) (xs (x3 + 2).toNatClampNeg) (xs (x3 + 3).toNatClampNeg) N hx) (ci := 5) rfl rfl lk_L_99 q621 q622 ⟨Nat.le_of_ble_eq_true rfl, Nat.le_of_ble_eq_true rfl⟩ rfl (Nat.le_of_ble_eq_true rfl) hl.1 dL_law_782 ⟨Nat.le_of_ble_eq_true rfl, Nat.le_of_ble_eq_true rfl⟩ (fun H locs hW => ?_)
  have hW : Wd D A s.heap ((wMa cs a (aT 0) (aS 0) (aD 0) (aG 0) (aR 0) (aE 0) μ ++ (wSc cs aS (aT 0) ς ++ (wTe cs aT τ ++ (wRo cs aE ε ++ (wGa cs aG (aD 0) (aR 0) γ Γ ++ (wDa cs aD dr δ ++ (wRo cs aR ρ))))))) ++ (wMo cs aM σ Λ)) H locs := hW
  refine lv_aload_n S.1 S.2.1 dL_law_785 rfl (lv_at hl 2 rfl) ?_
  refine lv_aload_n S.1 S.2.1 dL_law_786 rfl (lv_at hl 0 rfl) ?_
  refine lv_iload_n S.1 S.2.1 dL_law_787 rfl (lv_at hl 3 rfl) ?_
  refine lv_iconst (v := 1) S.1 S.2.1 dL_law_788 (by decide) ?_
  refine lv_iadd S.1 S.2.1 dL_law_789 ?_
  refine va_sld S.1 S.2.1 hX hbl hbA hW.2.2 hi1 dL_law_790 ?_
  refine lv_aload_n S.1 S.2.1 dL_law_791 rfl (lv_at hl 0 rfl) ?_
  refine lv_iload_n S.1 S.2.1 dL_law_792 rfl (lv_at hl 3 rfl) ?_
  refine lv_iconst (v := 2) S.1 S.2.1 dL_law_793 (by decide) ?_
  refine lv_iadd S.1 S.2.1 dL_law_794 ?_
  refine va_sld S.1 S.2.1 hX hbl hbA hW.2.2 hi2 dL_law_795 ?_
  refine lv_aload_n S.1 S.2.1 dL_law_796 rfl (lv_at hl 0 rfl) ?_
  refine lv_iload_n S.1 S.2.1 dL_law_797 rfl (lv_at hl 3 rfl) ?_
  refine lv_iconst (v := 3) S.1 S.2.1 dL_law_798 (by decide) ?_
  refine lv_iadd S.1 S.2.1 dL_law_799 ?_
  refine va_sld S.1 S.2.1 hX hbl hbA hW.2.2 hi3 dL_law_800 ?_
  have hW := kw (w' := (wMa cs a (aT 0) (aS 0) (aD 0) (aG 0) (aR 0) (aE 0) μ ++ (wSc cs aS (aT 0) ς ++ (wTe cs aT τ ++ (wRo cs aE ε ++ (wGa cs aG (aD 0) (aR 0) γ Γ ++ (wDa cs aD dr δ ++ (wRo cs aR ρ))))))) ++ ((wMo cs aM σ Λ) ++ [])) (by rw [List.append_nil]) hW
  refine kV_i (As := [.int (xs (x3 + 1).toNatClampNeg), .int (xs (x3 + 2).toNatClampNeg), .int (xs (x3 + 3).toNatClampNeg)]) (rest := [.int r]) S hK hA (z := none) trivial ((wMa cs a (aT 0) (aS 0) (aD 0) (aG 0) (aR 0) (aE 0) μ ++ (wSc cs aS (aT 0) ς ++ (wTe cs aT τ ++ (wRo cs aE ε ++ (wGa cs aG (aD 0) (aR 0) γ Γ ++ (wDa cs aD dr δ ++ (wRo cs aR ρ)))))))) [] hW (cMo_over l D cs aM σ Λ (xs (x3 + 1).toNatClampNeg) (xs (x3 + 2).toNatClampNeg) (xs (x3 + 3).toNatClampNeg) N hm) (ci := 6) rfl rfl lk_L_102 q955 q956 ⟨Nat.le_of_ble_eq_true rfl, Nat.le_of_ble_eq_true rfl⟩ rfl (Nat.le_of_ble_eq_true rfl) hl.1 dL_law_801 ⟨Nat.le_of_ble_eq_true rfl, Nat.le_of_ble_eq_true rfl⟩ (fun H locs hW => ?_)
  have hW : Wd D A s.heap ((wMa cs a (aT 0) (aS 0) (aD 0) (aG 0) (aR 0) (aE 0) μ ++ (wSc cs aS (aT 0) ς ++ (wTe cs aT τ ++ (wRo cs aE ε ++ (wGa cs aG (aD 0) (aR 0) γ Γ ++ (wDa cs aD dr δ ++ (wRo cs aR ρ))))))) ++ (wMo cs aM σ Λ)) H locs := kw (by rw [List.append_nil]) hW
  refine lv_icmp_eq (tgt := 967) S.1 S.2.1 dL_law_804 (by decide) (fun c9 => ?_) (fun c9 => ?_)
  · exact hk _ _ _ hW hl
  · exact absurd rfl c9
set_option maxHeartbeats 4000000 in
set_option maxRecDepth 100000 in
theorem wLaw_20 {p : Program} {l : Launch} {e : Env} {s : State} {m : MethodId} {args : Array Value} {below : List Frame} {meth : Method} {c : Code} {A : Nat → Prop} {Q : State → Prop} {D : va_G} {cs : Nat → ClassId} {fs a aS aT aE aG aD aR aM : Nat → Nat} {μ ς τ ε γ : St} {Γ : Nat → Int64} {δ ρ σ : St} {Λ : Nat → Int64} {dr b L N : Nat} {xs : Nat → Int32} {x3 : Int32} {r : Int32} (S : Fx p m c cL_law 4 s args RL) (hK : va_K D vwCl (tyL cs) s) (hA : ∀ x, s.heap.size ≤ x → A x) (hZ : Zf fs A s s.heap) (hX : va_X b L xs s s.heap) (hbl : b < s.heap.size) (hbA : ¬ A b) (hi1 : vp_in (x3 + 1) L) (hi2 : vp_in (x3 + 2) L) (hi3 : vp_in (x3 + 3) L) (hi4 : vp_in (x3 + 4) L) (hx : fMa_dare N (xs (x3 + 1).toNatClampNeg) (xs (x3 + 2).toNatClampNeg) (xs (x3 + 3).toNatClampNeg) ρ = some r) (hm : fMo_dare N (xs (x3 + 1).toNatClampNeg) (xs (x3 + 2).toNatClampNeg) (xs (x3 + 3).toNatClampNeg) σ = some r) (hk : ∀ (H : Heap) (locs : List Loc) (ls : Array Slot), Wd D A s.heap ((wMa cs a (aT 0) (aS 0) (aD 0) (aG 0) (aR 0) (aE 0) μ ++ (wSc cs aS (aT 0) ς ++ (wTe cs aT τ ++ (wRo cs aE ε ++ (wGa cs aG (aD 0) (aR 0) γ Γ ++ (wDa cs aD dr δ ++ (wRo cs aR ρ))))))) ++ (wMo cs aM σ Λ)) H locs → lv_has ls 4 [(0, .ref b), (1, .ref (a 0)), (2, .ref (aM 0)), (3, .int x3)] → W p l e room_1 s m args below meth c H locs 47 4456 Q (F0 m 967 ls [])) : ∀ (H : Heap) (locs : List Loc) (ls : Array Slot), Wd D A s.heap ((wMa cs a (aT 0) (aS 0) (aD 0) (aG 0) (aR 0) (aE 0) μ ++ (wSc cs aS (aT 0) ς ++ (wTe cs aT τ ++ (wRo cs aE ε ++ (wGa cs aG (aD 0) (aR 0) γ Γ ++ (wDa cs aD dr δ ++ (wRo cs aR ρ))))))) ++ (wMo cs aM σ Λ)) H locs → lv_has ls 4 [(0, .ref b), (1, .ref (a 0)), (2, .ref (aM 0)), (3, .int x3)] → W p l e room_1 s m args below meth c H locs 47 4456 Q (F0 m 809 ls []) := by
  intro H locs ls hW hl
  refine lv_aload_n S.1 S.2.1 dL_law_809 rfl (lv_at hl 1 rfl) ?_
  refine lv_aload_n S.1 S.2.1 dL_law_810 rfl (lv_at hl 0 rfl) ?_
  refine lv_iload_n S.1 S.2.1 dL_law_811 rfl (lv_at hl 3 rfl) ?_
  refine lv_iconst (v := 1) S.1 S.2.1 dL_law_812 (by decide) ?_
  refine lv_iadd S.1 S.2.1 dL_law_813 ?_
  refine va_sld S.1 S.2.1 hX hbl hbA hW.2.2 hi1 dL_law_814 ?_
  refine lv_aload_n S.1 S.2.1 dL_law_815 rfl (lv_at hl 0 rfl) ?_
  refine lv_iload_n S.1 S.2.1 dL_law_816 rfl (lv_at hl 3 rfl) ?_
  refine lv_iconst (v := 2) S.1 S.2.1 dL_law_817 (by decide) ?_
  refine lv_iadd S.1 S.2.1 dL_law_818 ?_
  refine va_sld S.1 S.2.1 hX hbl hbA hW.2.2 hi2 dL_law_819 ?_
  refine lv_aload_n S.1 S.2.1 dL_law_820 rfl (lv_at hl 0 rfl) ?_
  refine lv_iload_n S.1 S.2.1 dL_law_821 rfl (lv_at hl 3 rfl) ?_
  refine lv_iconst (v := 3) S.1 S.2.1 dL_law_822 (by decide) ?_
  refine lv_iadd S.1 S.2.1 dL_law_823 ?_
  refine va_sld S.1 S.2.1 hX hbl hbA hW.2.2 hi3 dL_law_824 ?_
  refine kV_i (As := [.int (xs (x3 + 1).toNatClampNeg), .int (xs (x3 + 2).toNatClampNeg), .int (xs (x3 + 3).toNatClampNeg)]) (rest := []) S hK hA (z := none) trivial [] (wMo cs aM σ Λ) hW (cMa_dare l D cs a aS aT aE aG aD aR μ ς τ ε γ Γ δ ρ dr (xs (x3 + 1).toNatClampNeg) (xs (x3 + 2).toNatClampNeg) (xs (x3 + 3).toNatClampNeg) N hx) (ci := 5) rfl rfl lk_L_103 q626 q627 ⟨Nat.le_of_ble_eq_true rfl, Nat.le_of_ble_eq_true rfl⟩ rfl (Nat.le_of_ble_eq_true rfl) hl.1 dL_law_825 ⟨Nat.le_of_ble_eq_true rfl, Nat.le_of_ble_eq_true rfl⟩ (fun H locs hW => ?_)
  have hW : Wd D A s.heap ((wMa cs a (aT 0) (aS 0) (aD 0) (aG 0) (aR 0) (aE 0) μ ++ (wSc cs aS (aT 0) ς ++ (wTe cs aT τ ++ (wRo cs aE ε ++ (wGa cs aG (aD 0) (aR 0) γ Γ ++ (wDa cs aD dr δ ++ (wRo cs aR ρ))))))) ++ (wMo cs aM σ Λ)) H locs := hW
  refine lv_aload_n S.1 S.2.1 dL_law_828 rfl (lv_at hl 2 rfl) ?_
  refine lv_aload_n S.1 S.2.1 dL_law_829 rfl (lv_at hl 0 rfl) ?_
  refine lv_iload_n S.1 S.2.1 dL_law_830 rfl (lv_at hl 3 rfl) ?_
  refine lv_iconst (v := 1) S.1 S.2.1 dL_law_831 (by decide) ?_
  refine lv_iadd S.1 S.2.1 dL_law_832 ?_
  refine va_sld S.1 S.2.1 hX hbl hbA hW.2.2 hi1 dL_law_833 ?_
  refine lv_aload_n S.1 S.2.1 dL_law_834 rfl (lv_at hl 0 rfl) ?_
  refine lv_iload_n S.1 S.2.1 dL_law_835 rfl (lv_at hl 3 rfl) ?_
  refine lv_iconst (v := 2) S.1 S.2.1 dL_law_836 (by decide) ?_
  refine lv_iadd S.1 S.2.1 dL_law_837 ?_
  refine va_sld S.1 S.2.1 hX hbl hbA hW.2.2 hi2 dL_law_838 ?_
  refine lv_aload_n S.1 S.2.1 dL_law_839 rfl (lv_at hl 0 rfl) ?_
  refine lv_iload_n S.1 S.2.1 dL_law_840 rfl (lv_at hl 3 rfl) ?_
  refine lv_iconst (v := 3) S.1 S.2.1 dL_law_841 (by decide) ?_
  refine lv_iadd S.1 S.2.1 dL_law_842 ?_
  refine va_sld S.1 S.2.1 hX hbl hbA hW.2.2 hi3 dL_law_843 ?_
  have hW := kw (w' := (wMa cs a (aT 0) (aS 0) (aD 0) (aG 0) (aR 0) (aE 0) μ ++ (wSc cs aS (aT 0) ς ++ (wTe cs aT τ ++ (wRo cs aE ε ++ (wGa cs aG (aD 0) (aR 0) γ Γ ++ (wDa cs aD dr δ ++ (wRo cs aR ρ))))))) ++ ((wMo cs aM σ Λ) ++ [])) (by rw [List.append_nil]) hW
  refine kV_i (As := [.int (xs (x3 + 1).toNatClampNeg), .int (xs (x3 + 2).toNatClampNeg), .int (xs (x3 + 3).toNatClampNeg)]) (rest := [.int r]) S hK hA (z := none) trivial ((wMa cs a (aT 0) (aS 0) (aD 0) (aG 0) (aR 0) (aE 0) μ ++ (wSc cs aS (aT 0) ς ++ (wTe cs aT τ ++ (wRo cs aE ε ++ (wGa cs aG (aD 0) (aR 0) γ Γ ++ (wDa cs aD dr δ ++ (wRo cs aR ρ)))))))) [] hW (cMo_dare l D cs aM σ Λ (xs (x3 + 1).toNatClampNeg) (xs (x3 + 2).toNatClampNeg) (xs (x3 + 3).toNatClampNeg) N hm) (ci := 6) rfl rfl lk_L_106 q960 q961 ⟨Nat.le_of_ble_eq_true rfl, Nat.le_of_ble_eq_true rfl⟩ rfl (Nat.le_of_ble_eq_true rfl) hl.1 dL_law_844 ⟨Nat.le_of_ble_eq_true rfl, Nat.le_of_ble_eq_true rfl⟩ (fun H locs hW => ?_)
  have hW : Wd D A s.heap ((wMa cs a (aT 0) (aS 0) (aD 0) (aG 0) (aR 0) (aE 0) μ ++ (wSc cs aS (aT 0) ς ++ (wTe cs aT τ ++ (wRo cs aE ε ++ (wGa cs aG (aD 0) (aR 0) γ Γ ++ (wDa cs aD dr δ ++ (wRo cs aR ρ))))))) ++ (wMo cs aM σ Λ)) H locs := kw (by rw [List.append_nil]) hW
  refine lv_icmp_eq (tgt := 967) S.1 S.2.1 dL_law_847 (by decide) (fun c9 => ?_) (fun c9 => ?_)
  · exact hk _ _ _ hW hl
  · exact absurd rfl c9
set_option maxHeartbeats 4000000 in
set_option maxRecDepth 100000 in
theorem wLaw_21 {p : Program} {l : Launch} {e : Env} {s : State} {m : MethodId} {args : Array Value} {below : List Frame} {meth : Method} {c : Code} {A : Nat → Prop} {Q : State → Prop} {D : va_G} {cs : Nat → ClassId} {fs a aS aT aE aG aD aR aM : Nat → Nat} {μ ς τ ε γ : St} {Γ : Nat → Int64} {δ ρ σ : St} {Λ : Nat → Int64} {dr b L N : Nat} {xs : Nat → Int32} {x3 : Int32} {r : Int32} {δ' : St} {dr' : Nat} {σ' : St} (S : Fx p m c cL_law 4 s args RL) (hK : va_K D vwCl (tyL cs) s) (hA : ∀ x, s.heap.size ≤ x → A x) (hZ : Zf fs A s s.heap) (hX : va_X b L xs s s.heap) (hbl : b < s.heap.size) (hbA : ¬ A b) (hi1 : vp_in (x3 + 1) L) (hi2 : vp_in (x3 + 2) L) (hi3 : vp_in (x3 + 3) L) (hi4 : vp_in (x3 + 4) L) (hx : fMa_drawn N (xs (x3 + 1).toNatClampNeg) (xs (x3 + 2).toNatClampNeg) μ ρ (aR 0) δ dr = some (r, δ', dr')) (hm : fMo_drawn N (xs (x3 + 1).toNatClampNeg) (xs (x3 + 2).toNatClampNeg) σ = some (r, σ')) (hk : ∀ (H : Heap) (locs : List Loc) (ls : Array Slot), Wd D A s.heap ((wMa cs a (aT 0) (aS 0) (aD 0) (aG 0) (aR 0) (aE 0) μ ++ (wSc cs aS (aT 0) ς ++ (wTe cs aT τ ++ (wRo cs aE ε ++ (wGa cs aG (aD 0) (aR 0) γ Γ ++ (wDa cs aD dr' δ' ++ (wRo cs aR ρ))))))) ++ (wMo cs aM σ' Λ)) H locs → lv_has ls 4 [(0, .ref b), (1, .ref (a 0)), (2, .ref (aM 0)), (3, .int x3)] → W p l e room_1 s m args below meth c H locs 47 4456 Q (F0 m 967 ls [])) : ∀ (H : Heap) (locs : List Loc) (ls : Array Slot), Wd D A s.heap ((wMa cs a (aT 0) (aS 0) (aD 0) (aG 0) (aR 0) (aE 0) μ ++ (wSc cs aS (aT 0) ς ++ (wTe cs aT τ ++ (wRo cs aE ε ++ (wGa cs aG (aD 0) (aR 0) γ Γ ++ (wDa cs aD dr δ ++ (wRo cs aR ρ))))))) ++ (wMo cs aM σ Λ)) H locs → lv_has ls 4 [(0, .ref b), (1, .ref (a 0)), (2, .ref (aM 0)), (3, .int x3)] → W p l e room_1 s m args below meth c H locs 47 4456 Q (F0 m 852 ls []) := by
  intro H locs ls hW hl
  refine lv_aload_n S.1 S.2.1 dL_law_852 rfl (lv_at hl 1 rfl) ?_
  refine lv_aload_n S.1 S.2.1 dL_law_853 rfl (lv_at hl 0 rfl) ?_
  refine lv_iload_n S.1 S.2.1 dL_law_854 rfl (lv_at hl 3 rfl) ?_
  refine lv_iconst (v := 1) S.1 S.2.1 dL_law_855 (by decide) ?_
  refine lv_iadd S.1 S.2.1 dL_law_856 ?_
  refine va_sld S.1 S.2.1 hX hbl hbA hW.2.2 hi1 dL_law_857 ?_
  refine lv_aload_n S.1 S.2.1 dL_law_858 rfl (lv_at hl 0 rfl) ?_
  refine lv_iload_n S.1 S.2.1 dL_law_859 rfl (lv_at hl 3 rfl) ?_
  refine lv_iconst (v := 2) S.1 S.2.1 dL_law_860 (by decide) ?_
  refine lv_iadd S.1 S.2.1 dL_law_861 ?_
  refine va_sld S.1 S.2.1 hX hbl hbA hW.2.2 hi2 dL_law_862 ?_
  refine kV_i (As := [.int (xs (x3 + 1).toNatClampNeg), .int (xs (x3 + 2).toNatClampNeg)]) (rest := []) S hK hA (z := none) trivial [] (wMo cs aM σ Λ) hW (cMa_drawn l D cs a aS aT aE aG aD aR μ ς τ ε γ Γ δ ρ dr (xs (x3 + 1).toNatClampNeg) (xs (x3 + 2).toNatClampNeg) N hx) (ci := 5) rfl rfl lk_L_107 q631 q632 ⟨Nat.le_of_ble_eq_true rfl, Nat.le_of_ble_eq_true rfl⟩ rfl (Nat.le_of_ble_eq_true rfl) hl.1 dL_law_863 ⟨Nat.le_of_ble_eq_true rfl, Nat.le_of_ble_eq_true rfl⟩ (fun H locs hW => ?_)
  have hW : Wd D A s.heap ((wMa cs a (aT 0) (aS 0) (aD 0) (aG 0) (aR 0) (aE 0) μ ++ (wSc cs aS (aT 0) ς ++ (wTe cs aT τ ++ (wRo cs aE ε ++ (wGa cs aG (aD 0) (aR 0) γ Γ ++ (wDa cs aD dr' δ' ++ (wRo cs aR ρ))))))) ++ (wMo cs aM σ Λ)) H locs := hW
  refine lv_aload_n S.1 S.2.1 dL_law_866 rfl (lv_at hl 2 rfl) ?_
  refine lv_aload_n S.1 S.2.1 dL_law_867 rfl (lv_at hl 0 rfl) ?_
  refine lv_iload_n S.1 S.2.1 dL_law_868 rfl (lv_at hl 3 rfl) ?_
  refine lv_iconst (v := 1) S.1 S.2.1 dL_law_869 (by decide) ?_
  refine lv_iadd S.1 S.2.1 dL_law_870 ?_
  refine va_sld S.1 S.2.1 hX hbl hbA hW.2.2 hi1 dL_law_871 ?_
  refine lv_aload_n S.1 S.2.1 dL_law_872 rfl (lv_at hl 0 rfl) ?_
  refine lv_iload_n S.1 S.2.1 dL_law_873 rfl (lv_at hl 3 rfl) ?_
  refine lv_iconst (v := 2) S.1 S.2.1 dL_law_874 (by decide) ?_
  refine lv_iadd S.1 S.2.1 dL_law_875 ?_
  refine va_sld S.1 S.2.1 hX hbl hbA hW.2.2 hi2 dL_law_876 ?_
  have hW := kw (w' := (wMa cs a (aT 0) (aS 0) (aD 0) (aG 0) (aR 0) (aE 0) μ ++ (wSc cs aS (aT 0) ς ++ (wTe cs aT τ ++ (wRo cs aE ε ++ (wGa cs aG (aD 0) (aR 0) γ Γ ++ (wDa cs aD dr' δ' ++ (wRo cs aR ρ))))))) ++ ((wMo cs aM σ Λ) ++ [])) (by rw [List.append_nil]) hW
  refine kV_i (As := [.int (xs (x3 + 1).toNatClampNeg), .int (xs (x3 + 2).toNatClampNeg)]) (rest := [.int r]) S hK hA (z := none) trivial ((wMa cs a (aT 0) (aS 0) (aD 0) (aG 0) (aR 0) (aE 0) μ ++ (wSc cs aS (aT 0) ς ++ (wTe cs aT τ ++ (wRo cs aE ε ++ (wGa cs aG (aD 0) (aR 0) γ Γ ++ (wDa cs aD dr' δ' ++ (wRo cs aR ρ)))))))) [] hW (cMo_drawn l D cs aM σ Λ (xs (x3 + 1).toNatClampNeg) (xs (x3 + 2).toNatClampNeg) N hm) (ci := 6) rfl rfl lk_L_110 q965 q966 ⟨Nat.le_of_ble_eq_true rfl, Nat.le_of_ble_eq_true rfl⟩ rfl (Nat.le_of_ble_eq_true rfl) hl.1 dL_law_877 ⟨Nat.le_of_ble_eq_true rfl, Nat.le_of_ble_eq_true rfl⟩ (fun H locs hW => ?_)
  have hW : Wd D A s.heap ((wMa cs a (aT 0) (aS 0) (aD 0) (aG 0) (aR 0) (aE 0) μ ++ (wSc cs aS (aT 0) ς ++ (wTe cs aT τ ++ (wRo cs aE ε ++ (wGa cs aG (aD 0) (aR 0) γ Γ ++ (wDa cs aD dr' δ' ++ (wRo cs aR ρ))))))) ++ (wMo cs aM σ' Λ)) H locs := kw (by rw [List.append_nil]) hW
  refine lv_icmp_eq (tgt := 967) S.1 S.2.1 dL_law_880 (by decide) (fun c9 => ?_) (fun c9 => ?_)
  · exact hk _ _ _ hW hl
  · exact absurd rfl c9
set_option maxHeartbeats 4000000 in
set_option maxRecDepth 100000 in
theorem wLaw_22 {p : Program} {l : Launch} {e : Env} {s : State} {m : MethodId} {args : Array Value} {below : List Frame} {meth : Method} {c : Code} {A : Nat → Prop} {Q : State → Prop} {D : va_G} {cs : Nat → ClassId} {fs a aS aT aE aG aD aR aM : Nat → Nat} {μ ς τ ε γ : St} {Γ : Nat → Int64} {δ ρ σ : St} {Λ : Nat → Int64} {dr b L N : Nat} {xs : Nat → Int32} {x3 : Int32} {r : Int32} {δ' : St} {dr' : Nat} {σ' : St} (S : Fx p m c cL_law 4 s args RL) (hK : va_K D vwCl (tyL cs) s) (hA : ∀ x, s.heap.size ≤ x → A x) (hZ : Zf fs A s s.heap) (hX : va_X b L xs s s.heap) (hbl : b < s.heap.size) (hbA : ¬ A b) (hi1 : vp_in (x3 + 1) L) (hi2 : vp_in (x3 + 2) L) (hi3 : vp_in (x3 + 3) L) (hi4 : vp_in (x3 + 4) L) (hx : fMa_ten N (xs (x3 + 1).toNatClampNeg) (xs (x3 + 2).toNatClampNeg) μ ρ (aR 0) δ dr = some (r, δ', dr')) (hm : fMo_ten N (xs (x3 + 1).toNatClampNeg) (xs (x3 + 2).toNatClampNeg) σ = some (r, σ')) (hk : ∀ (H : Heap) (locs : List Loc) (ls : Array Slot), Wd D A s.heap ((wMa cs a (aT 0) (aS 0) (aD 0) (aG 0) (aR 0) (aE 0) μ ++ (wSc cs aS (aT 0) ς ++ (wTe cs aT τ ++ (wRo cs aE ε ++ (wGa cs aG (aD 0) (aR 0) γ Γ ++ (wDa cs aD dr' δ' ++ (wRo cs aR ρ))))))) ++ (wMo cs aM σ' Λ)) H locs → lv_has ls 4 [(0, .ref b), (1, .ref (a 0)), (2, .ref (aM 0)), (3, .int x3)] → W p l e room_1 s m args below meth c H locs 47 4456 Q (F0 m 967 ls [])) : ∀ (H : Heap) (locs : List Loc) (ls : Array Slot), Wd D A s.heap ((wMa cs a (aT 0) (aS 0) (aD 0) (aG 0) (aR 0) (aE 0) μ ++ (wSc cs aS (aT 0) ς ++ (wTe cs aT τ ++ (wRo cs aE ε ++ (wGa cs aG (aD 0) (aR 0) γ Γ ++ (wDa cs aD dr δ ++ (wRo cs aR ρ))))))) ++ (wMo cs aM σ Λ)) H locs → lv_has ls 4 [(0, .ref b), (1, .ref (a 0)), (2, .ref (aM 0)), (3, .int x3)] → W p l e room_1 s m args below meth c H locs 47 4456 Q (F0 m 885 ls []) := by
  intro H locs ls hW hl
  refine lv_aload_n S.1 S.2.1 dL_law_885 rfl (lv_at hl 1 rfl) ?_
  refine lv_aload_n S.1 S.2.1 dL_law_886 rfl (lv_at hl 0 rfl) ?_
  refine lv_iload_n S.1 S.2.1 dL_law_887 rfl (lv_at hl 3 rfl) ?_
  refine lv_iconst (v := 1) S.1 S.2.1 dL_law_888 (by decide) ?_
  refine lv_iadd S.1 S.2.1 dL_law_889 ?_
  refine va_sld S.1 S.2.1 hX hbl hbA hW.2.2 hi1 dL_law_890 ?_
  refine lv_aload_n S.1 S.2.1 dL_law_891 rfl (lv_at hl 0 rfl) ?_
  refine lv_iload_n S.1 S.2.1 dL_law_892 rfl (lv_at hl 3 rfl) ?_
  refine lv_iconst (v := 2) S.1 S.2.1 dL_law_893 (by decide) ?_
  refine lv_iadd S.1 S.2.1 dL_law_894 ?_
  refine va_sld S.1 S.2.1 hX hbl hbA hW.2.2 hi2 dL_law_895 ?_
  refine kV_i (As := [.int (xs (x3 + 1).toNatClampNeg), .int (xs (x3 + 2).toNatClampNeg)]) (rest := []) S hK hA (z := none) trivial [] (wMo cs aM σ Λ) hW (cMa_ten l D cs a aS aT aE aG aD aR μ ς τ ε γ Γ δ ρ dr (xs (x3 + 1).toNatClampNeg) (xs (x3 + 2).toNatClampNeg) N hx) (ci := 5) rfl rfl lk_L_111 q650 q651 ⟨Nat.le_of_ble_eq_true rfl, Nat.le_of_ble_eq_true rfl⟩ rfl (Nat.le_of_ble_eq_true rfl) hl.1 dL_law_896 ⟨Nat.le_of_ble_eq_true rfl, Nat.le_of_ble_eq_true rfl⟩ (fun H locs hW => ?_)
  have hW : Wd D A s.heap ((wMa cs a (aT 0) (aS 0) (aD 0) (aG 0) (aR 0) (aE 0) μ ++ (wSc cs aS (aT 0) ς ++ (wTe cs aT τ ++ (wRo cs aE ε ++ (wGa cs aG (aD 0) (aR 0) γ Γ ++ (wDa cs aD dr' δ' ++ (wRo cs aR ρ))))))) ++ (wMo cs aM σ Λ)) H locs := hW
  refine lv_aload_n S.1 S.2.1 dL_law_899 rfl (lv_at hl 2 rfl) ?_
  refine lv_aload_n S.1 S.2.1 dL_law_900 rfl (lv_at hl 0 rfl) ?_
  refine lv_iload_n S.1 S.2.1 dL_law_901 rfl (lv_at hl 3 rfl) ?_
  refine lv_iconst (v := 1) S.1 S.2.1 dL_law_902 (by decide) ?_
  refine lv_iadd S.1 S.2.1 dL_law_903 ?_
  refine va_sld S.1 S.2.1 hX hbl hbA hW.2.2 hi1 dL_law_904 ?_
  refine lv_aload_n S.1 S.2.1 dL_law_905 rfl (lv_at hl 0 rfl) ?_
  refine lv_iload_n S.1 S.2.1 dL_law_906 rfl (lv_at hl 3 rfl) ?_
  refine lv_iconst (v := 2) S.1 S.2.1 dL_law_907 (by decide) ?_
  refine lv_iadd S.1 S.2.1 dL_law_908 ?_
  refine va_sld S.1 S.2.1 hX hbl hbA hW.2.2 hi2 dL_law_909 ?_
  have hW := kw (w' := (wMa cs a (aT 0) (aS 0) (aD 0) (aG 0) (aR 0) (aE 0) μ ++ (wSc cs aS (aT 0) ς ++ (wTe cs aT τ ++ (wRo cs aE ε ++ (wGa cs aG (aD 0) (aR 0) γ Γ ++ (wDa cs aD dr' δ' ++ (wRo cs aR ρ))))))) ++ ((wMo cs aM σ Λ) ++ [])) (by rw [List.append_nil]) hW
  refine kV_i (As := [.int (xs (x3 + 1).toNatClampNeg), .int (xs (x3 + 2).toNatClampNeg)]) (rest := [.int r]) S hK hA (z := none) trivial ((wMa cs a (aT 0) (aS 0) (aD 0) (aG 0) (aR 0) (aE 0) μ ++ (wSc cs aS (aT 0) ς ++ (wTe cs aT τ ++ (wRo cs aE ε ++ (wGa cs aG (aD 0) (aR 0) γ Γ ++ (wDa cs aD dr' δ' ++ (wRo cs aR ρ)))))))) [] hW (cMo_ten l D cs aM σ Λ (xs (x3 + 1).toNatClampNeg) (xs (x3 + 2).toNatClampNeg) N hm) (ci := 6) rfl rfl lk_L_114 q979 q980 ⟨Nat.le_of_ble_eq_true rfl, Nat.le_of_ble_eq_true rfl⟩ rfl (Nat.le_of_ble_eq_true rfl) hl.1 dL_law_910 ⟨Nat.le_of_ble_eq_true rfl, Nat.le_of_ble_eq_true rfl⟩ (fun H locs hW => ?_)
  have hW : Wd D A s.heap ((wMa cs a (aT 0) (aS 0) (aD 0) (aG 0) (aR 0) (aE 0) μ ++ (wSc cs aS (aT 0) ς ++ (wTe cs aT τ ++ (wRo cs aE ε ++ (wGa cs aG (aD 0) (aR 0) γ Γ ++ (wDa cs aD dr' δ' ++ (wRo cs aR ρ))))))) ++ (wMo cs aM σ' Λ)) H locs := kw (by rw [List.append_nil]) hW
  refine lv_icmp_eq (tgt := 967) S.1 S.2.1 dL_law_913 (by decide) (fun c9 => ?_) (fun c9 => ?_)
  · exact hk _ _ _ hW hl
  · exact absurd rfl c9
set_option maxHeartbeats 4000000 in
set_option maxRecDepth 100000 in
theorem wLaw_23 {p : Program} {l : Launch} {e : Env} {s : State} {m : MethodId} {args : Array Value} {below : List Frame} {meth : Method} {c : Code} {A : Nat → Prop} {Q : State → Prop} {D : va_G} {cs : Nat → ClassId} {fs a aS aT aE aG aD aR aM : Nat → Nat} {μ ς τ ε γ : St} {Γ : Nat → Int64} {δ ρ σ : St} {Λ : Nat → Int64} {dr b L N : Nat} {xs : Nat → Int32} {x3 : Int32} {r : Int32} {μ' : St} {σ' : St} (S : Fx p m c cL_law 4 s args RL) (hK : va_K D vwCl (tyL cs) s) (hA : ∀ x, s.heap.size ≤ x → A x) (hZ : Zf fs A s s.heap) (hX : va_X b L xs s s.heap) (hbl : b < s.heap.size) (hbA : ¬ A b) (hi1 : vp_in (x3 + 1) L) (hi2 : vp_in (x3 + 2) L) (hi3 : vp_in (x3 + 3) L) (hi4 : vp_in (x3 + 4) L) (hx : fMa_keep N μ = some (r, μ')) (hm : fMo_keep N σ = some (r, σ')) (hk : ∀ (H : Heap) (locs : List Loc) (ls : Array Slot), Wd D A s.heap ((wMa cs a (aT 0) (aS 0) (aD 0) (aG 0) (aR 0) (aE 0) μ' ++ (wSc cs aS (aT 0) ς ++ (wTe cs aT τ ++ (wRo cs aE ε ++ (wGa cs aG (aD 0) (aR 0) γ Γ ++ (wDa cs aD dr δ ++ (wRo cs aR ρ))))))) ++ (wMo cs aM σ' Λ)) H locs → lv_has ls 4 [(0, .ref b), (1, .ref (a 0)), (2, .ref (aM 0)), (3, .int x3)] → W p l e room_1 s m args below meth c H locs 47 4456 Q (F0 m 967 ls [])) : ∀ (H : Heap) (locs : List Loc) (ls : Array Slot), Wd D A s.heap ((wMa cs a (aT 0) (aS 0) (aD 0) (aG 0) (aR 0) (aE 0) μ ++ (wSc cs aS (aT 0) ς ++ (wTe cs aT τ ++ (wRo cs aE ε ++ (wGa cs aG (aD 0) (aR 0) γ Γ ++ (wDa cs aD dr δ ++ (wRo cs aR ρ))))))) ++ (wMo cs aM σ Λ)) H locs → lv_has ls 4 [(0, .ref b), (1, .ref (a 0)), (2, .ref (aM 0)), (3, .int x3)] → W p l e room_1 s m args below meth c H locs 47 4456 Q (F0 m 918 ls []) := by
  intro H locs ls hW hl
  refine lv_aload_n S.1 S.2.1 dL_law_918 rfl (lv_at hl 1 rfl) ?_
  refine kV_i (As := []) (rest := []) S hK hA (z := none) trivial [] (wMo cs aM σ Λ) hW (cMa_keep l D cs a aS aT aE aG aD aR μ ς τ ε γ Γ δ ρ dr N hx) (ci := 5) rfl rfl lk_L_115 q654 q655 ⟨Nat.le_of_ble_eq_true rfl, Nat.le_of_ble_eq_true rfl⟩ rfl (Nat.le_of_ble_eq_true rfl) hl.1 dL_law_919 ⟨Nat.le_of_ble_eq_true rfl, Nat.le_of_ble_eq_true rfl⟩ (fun H locs hW => ?_)
  have hW : Wd D A s.heap ((wMa cs a (aT 0) (aS 0) (aD 0) (aG 0) (aR 0) (aE 0) μ' ++ (wSc cs aS (aT 0) ς ++ (wTe cs aT τ ++ (wRo cs aE ε ++ (wGa cs aG (aD 0) (aR 0) γ Γ ++ (wDa cs aD dr δ ++ (wRo cs aR ρ))))))) ++ (wMo cs aM σ Λ)) H locs := hW
  refine lv_aload_n S.1 S.2.1 dL_law_922 rfl (lv_at hl 2 rfl) ?_
  have hW := kw (w' := (wMa cs a (aT 0) (aS 0) (aD 0) (aG 0) (aR 0) (aE 0) μ' ++ (wSc cs aS (aT 0) ς ++ (wTe cs aT τ ++ (wRo cs aE ε ++ (wGa cs aG (aD 0) (aR 0) γ Γ ++ (wDa cs aD dr δ ++ (wRo cs aR ρ))))))) ++ ((wMo cs aM σ Λ) ++ [])) (by rw [List.append_nil]) hW
  refine kV_i (As := []) (rest := [.int r]) S hK hA (z := none) trivial ((wMa cs a (aT 0) (aS 0) (aD 0) (aG 0) (aR 0) (aE 0) μ' ++ (wSc cs aS (aT 0) ς ++ (wTe cs aT τ ++ (wRo cs aE ε ++ (wGa cs aG (aD 0) (aR 0) γ Γ ++ (wDa cs aD dr δ ++ (wRo cs aR ρ)))))))) [] hW (cMo_keep l D cs aM σ Λ N hm) (ci := 6) rfl rfl lk_L_118 q983 q984 ⟨Nat.le_of_ble_eq_true rfl, Nat.le_of_ble_eq_true rfl⟩ rfl (Nat.le_of_ble_eq_true rfl) hl.1 dL_law_923 ⟨Nat.le_of_ble_eq_true rfl, Nat.le_of_ble_eq_true rfl⟩ (fun H locs hW => ?_)
  have hW : Wd D A s.heap ((wMa cs a (aT 0) (aS 0) (aD 0) (aG 0) (aR 0) (aE 0) μ' ++ (wSc cs aS (aT 0) ς ++ (wTe cs aT τ ++ (wRo cs aE ε ++ (wGa cs aG (aD 0) (aR 0) γ Γ ++ (wDa cs aD dr δ ++ (wRo cs aR ρ))))))) ++ (wMo cs aM σ' Λ)) H locs := kw (by rw [List.append_nil]) hW
  refine lv_icmp_eq (tgt := 967) S.1 S.2.1 dL_law_926 (by decide) (fun c9 => ?_) (fun c9 => ?_)
  · exact hk _ _ _ hW hl
  · exact absurd rfl c9
set_option maxHeartbeats 4000000 in
set_option maxRecDepth 100000 in
theorem wLaw_24 {p : Program} {l : Launch} {e : Env} {s : State} {m : MethodId} {args : Array Value} {below : List Frame} {meth : Method} {c : Code} {A : Nat → Prop} {Q : State → Prop} {D : va_G} {cs : Nat → ClassId} {fs a aS aT aE aG aD aR aM : Nat → Nat} {μ ς τ ε γ : St} {Γ : Nat → Int64} {δ ρ σ : St} {Λ : Nat → Int64} {dr b L N : Nat} {xs : Nat → Int32} {x3 : Int32} {r : Int32} {μ' : St} {σ' : St} (S : Fx p m c cL_law 4 s args RL) (hK : va_K D vwCl (tyL cs) s) (hA : ∀ x, s.heap.size ≤ x → A x) (hZ : Zf fs A s s.heap) (hX : va_X b L xs s s.heap) (hbl : b < s.heap.size) (hbA : ¬ A b) (hi1 : vp_in (x3 + 1) L) (hi2 : vp_in (x3 + 2) L) (hi3 : vp_in (x3 + 3) L) (hi4 : vp_in (x3 + 4) L) (hx : fMa_back N μ = some (r, μ')) (hm : fMo_back N σ = some (r, σ')) (hk : ∀ (H : Heap) (locs : List Loc) (ls : Array Slot), Wd D A s.heap ((wMa cs a (aT 0) (aS 0) (aD 0) (aG 0) (aR 0) (aE 0) μ' ++ (wSc cs aS (aT 0) ς ++ (wTe cs aT τ ++ (wRo cs aE ε ++ (wGa cs aG (aD 0) (aR 0) γ Γ ++ (wDa cs aD dr δ ++ (wRo cs aR ρ))))))) ++ (wMo cs aM σ' Λ)) H locs → lv_has ls 4 [(0, .ref b), (1, .ref (a 0)), (2, .ref (aM 0)), (3, .int x3)] → W p l e room_1 s m args below meth c H locs 47 4456 Q (F0 m 967 ls [])) : ∀ (H : Heap) (locs : List Loc) (ls : Array Slot), Wd D A s.heap ((wMa cs a (aT 0) (aS 0) (aD 0) (aG 0) (aR 0) (aE 0) μ ++ (wSc cs aS (aT 0) ς ++ (wTe cs aT τ ++ (wRo cs aE ε ++ (wGa cs aG (aD 0) (aR 0) γ Γ ++ (wDa cs aD dr δ ++ (wRo cs aR ρ))))))) ++ (wMo cs aM σ Λ)) H locs → lv_has ls 4 [(0, .ref b), (1, .ref (a 0)), (2, .ref (aM 0)), (3, .int x3)] → W p l e room_1 s m args below meth c H locs 47 4456 Q (F0 m 931 ls []) := by
  intro H locs ls hW hl
  refine lv_aload_n S.1 S.2.1 dL_law_931 rfl (lv_at hl 1 rfl) ?_
  refine kV_i (As := []) (rest := []) S hK hA (z := none) trivial [] (wMo cs aM σ Λ) hW (cMa_back l D cs a aS aT aE aG aD aR μ ς τ ε γ Γ δ ρ dr N hx) (ci := 5) rfl rfl lk_L_119 q658 q659 ⟨Nat.le_of_ble_eq_true rfl, Nat.le_of_ble_eq_true rfl⟩ rfl (Nat.le_of_ble_eq_true rfl) hl.1 dL_law_932 ⟨Nat.le_of_ble_eq_true rfl, Nat.le_of_ble_eq_true rfl⟩ (fun H locs hW => ?_)
  have hW : Wd D A s.heap ((wMa cs a (aT 0) (aS 0) (aD 0) (aG 0) (aR 0) (aE 0) μ' ++ (wSc cs aS (aT 0) ς ++ (wTe cs aT τ ++ (wRo cs aE ε ++ (wGa cs aG (aD 0) (aR 0) γ Γ ++ (wDa cs aD dr δ ++ (wRo cs aR ρ))))))) ++ (wMo cs aM σ Λ)) H locs := hW
  refine lv_aload_n S.1 S.2.1 dL_law_935 rfl (lv_at hl 2 rfl) ?_
  have hW := kw (w' := (wMa cs a (aT 0) (aS 0) (aD 0) (aG 0) (aR 0) (aE 0) μ' ++ (wSc cs aS (aT 0) ς ++ (wTe cs aT τ ++ (wRo cs aE ε ++ (wGa cs aG (aD 0) (aR 0) γ Γ ++ (wDa cs aD dr δ ++ (wRo cs aR ρ))))))) ++ ((wMo cs aM σ Λ) ++ [])) (by rw [List.append_nil]) hW
  refine kV_i (As := []) (rest := [.int r]) S hK hA (z := none) trivial ((wMa cs a (aT 0) (aS 0) (aD 0) (aG 0) (aR 0) (aE 0) μ' ++ (wSc cs aS (aT 0) ς ++ (wTe cs aT τ ++ (wRo cs aE ε ++ (wGa cs aG (aD 0) (aR 0) γ Γ ++ (wDa cs aD dr δ ++ (wRo cs aR ρ)))))))) [] hW (cMo_back l D cs aM σ Λ N hm) (ci := 6) rfl rfl lk_L_122 q987 q988 ⟨Nat.le_of_ble_eq_true rfl, Nat.le_of_ble_eq_true rfl⟩ rfl (Nat.le_of_ble_eq_true rfl) hl.1 dL_law_936 ⟨Nat.le_of_ble_eq_true rfl, Nat.le_of_ble_eq_true rfl⟩ (fun H locs hW => ?_)
  have hW : Wd D A s.heap ((wMa cs a (aT 0) (aS 0) (aD 0) (aG 0) (aR 0) (aE 0) μ' ++ (wSc cs aS (aT 0) ς ++ (wTe cs aT τ ++ (wRo cs aE ε ++ (wGa cs aG (aD 0) (aR 0) γ Γ ++ (wDa cs aD dr δ ++ (wRo cs aR ρ))))))) ++ (wMo cs aM σ' Λ)) H locs := kw (by rw [List.append_nil]) hW
  refine lv_icmp_eq (tgt := 967) S.1 S.2.1 dL_law_939 (by decide) (fun c9 => ?_) (fun c9 => ?_)
  · exact hk _ _ _ hW hl
  · exact absurd rfl c9
set_option maxHeartbeats 4000000 in
set_option maxRecDepth 100000 in
theorem wLaw_25 {p : Program} {l : Launch} {e : Env} {s : State} {m : MethodId} {args : Array Value} {below : List Frame} {meth : Method} {c : Code} {A : Nat → Prop} {Q : State → Prop} {D : va_G} {cs : Nat → ClassId} {fs a aS aT aE aG aD aR aM : Nat → Nat} {μ ς τ ε γ : St} {Γ : Nat → Int64} {δ ρ σ : St} {Λ : Nat → Int64} {dr b L N : Nat} {xs : Nat → Int32} {x3 : Int32} {r : Int32} (S : Fx p m c cL_law 4 s args RL) (hK : va_K D vwCl (tyL cs) s) (hA : ∀ x, s.heap.size ≤ x → A x) (hZ : Zf fs A s s.heap) (hX : va_X b L xs s s.heap) (hbl : b < s.heap.size) (hbA : ¬ A b) (hi1 : vp_in (x3 + 1) L) (hi2 : vp_in (x3 + 2) L) (hi3 : vp_in (x3 + 3) L) (hi4 : vp_in (x3 + 4) L) (hx : fMa_count N (xs (x3 + 1).toNatClampNeg) μ τ ρ = some r) (hm : fMo_count N (xs (x3 + 1).toNatClampNeg) σ = some r) (hk : ∀ (H : Heap) (locs : List Loc) (ls : Array Slot), Wd D A s.heap ((wMa cs a (aT 0) (aS 0) (aD 0) (aG 0) (aR 0) (aE 0) μ ++ (wSc cs aS (aT 0) ς ++ (wTe cs aT τ ++ (wRo cs aE ε ++ (wGa cs aG (aD 0) (aR 0) γ Γ ++ (wDa cs aD dr δ ++ (wRo cs aR ρ))))))) ++ (wMo cs aM σ Λ)) H locs → lv_has ls 4 [(0, .ref b), (1, .ref (a 0)), (2, .ref (aM 0)), (3, .int x3)] → W p l e room_1 s m args below meth c H locs 47 4456 Q (F0 m 967 ls [])) : ∀ (H : Heap) (locs : List Loc) (ls : Array Slot), Wd D A s.heap ((wMa cs a (aT 0) (aS 0) (aD 0) (aG 0) (aR 0) (aE 0) μ ++ (wSc cs aS (aT 0) ς ++ (wTe cs aT τ ++ (wRo cs aE ε ++ (wGa cs aG (aD 0) (aR 0) γ Γ ++ (wDa cs aD dr δ ++ (wRo cs aR ρ))))))) ++ (wMo cs aM σ Λ)) H locs → lv_has ls 4 [(0, .ref b), (1, .ref (a 0)), (2, .ref (aM 0)), (3, .int x3)] → W p l e room_1 s m args below meth c H locs 47 4456 Q (F0 m 944 ls []) := by
  intro H locs ls hW hl
  refine lv_aload_n S.1 S.2.1 dL_law_944 rfl (lv_at hl 1 rfl) ?_
  refine lv_aload_n S.1 S.2.1 dL_law_945 rfl (lv_at hl 0 rfl) ?_
  refine lv_iload_n S.1 S.2.1 dL_law_946 rfl (lv_at hl 3 rfl) ?_
  refine lv_iconst (v := 1) S.1 S.2.1 dL_law_947 (by decide) ?_
  refine lv_iadd S.1 S.2.1 dL_law_948 ?_
  refine va_sld S.1 S.2.1 hX hbl hbA hW.2.2 hi1 dL_law_949 ?_
  refine kV_i (As := [.int (xs (x3 + 1).toNatClampNeg)]) (rest := []) S hK hA (z := none) trivial [] (wMo cs aM σ Λ) hW (cMa_count l D cs a aS aT aE aG aD aR μ ς τ ε γ Γ δ ρ dr (xs (x3 + 1).toNatClampNeg) N hx) (ci := 5) rfl rfl lk_L_123 q662 q663 ⟨Nat.le_of_ble_eq_true rfl, Nat.le_of_ble_eq_true rfl⟩ rfl (Nat.le_of_ble_eq_true rfl) hl.1 dL_law_950 ⟨Nat.le_of_ble_eq_true rfl, Nat.le_of_ble_eq_true rfl⟩ (fun H locs hW => ?_)
  have hW : Wd D A s.heap ((wMa cs a (aT 0) (aS 0) (aD 0) (aG 0) (aR 0) (aE 0) μ ++ (wSc cs aS (aT 0) ς ++ (wTe cs aT τ ++ (wRo cs aE ε ++ (wGa cs aG (aD 0) (aR 0) γ Γ ++ (wDa cs aD dr δ ++ (wRo cs aR ρ))))))) ++ (wMo cs aM σ Λ)) H locs := hW
  refine lv_aload_n S.1 S.2.1 dL_law_953 rfl (lv_at hl 2 rfl) ?_
  refine lv_aload_n S.1 S.2.1 dL_law_954 rfl (lv_at hl 0 rfl) ?_
  refine lv_iload_n S.1 S.2.1 dL_law_955 rfl (lv_at hl 3 rfl) ?_
  refine lv_iconst (v := 1) S.1 S.2.1 dL_law_956 (by decide) ?_
  refine lv_iadd S.1 S.2.1 dL_law_957 ?_
  refine va_sld S.1 S.2.1 hX hbl hbA hW.2.2 hi1 dL_law_958 ?_
  have hW := kw (w' := (wMa cs a (aT 0) (aS 0) (aD 0) (aG 0) (aR 0) (aE 0) μ ++ (wSc cs aS (aT 0) ς ++ (wTe cs aT τ ++ (wRo cs aE ε ++ (wGa cs aG (aD 0) (aR 0) γ Γ ++ (wDa cs aD dr δ ++ (wRo cs aR ρ))))))) ++ ((wMo cs aM σ Λ) ++ [])) (by rw [List.append_nil]) hW
  refine kV_i (As := [.int (xs (x3 + 1).toNatClampNeg)]) (rest := [.int r]) S hK hA (z := none) trivial ((wMa cs a (aT 0) (aS 0) (aD 0) (aG 0) (aR 0) (aE 0) μ ++ (wSc cs aS (aT 0) ς ++ (wTe cs aT τ ++ (wRo cs aE ε ++ (wGa cs aG (aD 0) (aR 0) γ Γ ++ (wDa cs aD dr δ ++ (wRo cs aR ρ)))))))) [] hW (cMo_count l D cs aM σ Λ (xs (x3 + 1).toNatClampNeg) N hm) (ci := 6) rfl rfl lk_L_126 q991 q992 ⟨Nat.le_of_ble_eq_true rfl, Nat.le_of_ble_eq_true rfl⟩ rfl (Nat.le_of_ble_eq_true rfl) hl.1 dL_law_959 ⟨Nat.le_of_ble_eq_true rfl, Nat.le_of_ble_eq_true rfl⟩ (fun H locs hW => ?_)
  have hW : Wd D A s.heap ((wMa cs a (aT 0) (aS 0) (aD 0) (aG 0) (aR 0) (aE 0) μ ++ (wSc cs aS (aT 0) ς ++ (wTe cs aT τ ++ (wRo cs aE ε ++ (wGa cs aG (aD 0) (aR 0) γ Γ ++ (wDa cs aD dr δ ++ (wRo cs aR ρ))))))) ++ (wMo cs aM σ Λ)) H locs := kw (by rw [List.append_nil]) hW
  refine lv_icmp_eq (tgt := 967) S.1 S.2.1 dL_law_962 (by decide) (fun c9 => ?_) (fun c9 => ?_)
  · exact hk _ _ _ hW hl
  · exact absurd rfl c9
