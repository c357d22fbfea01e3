/-! addReader: the row told lies outside its world -/
/-- System.arraycopy out of a row that lies outside the world -/
theorem k_copyT {p : Program} {l : Launch} {e : Env} {R : Room} {s : State} {m : MethodId} {args : Array Value} {below : List Frame} {meth : Method} {c : Code} {H : Heap} {locs : List Loc} {cells slots : Nat} {Q : State → Prop} {cc : ByteArray} {pc nL : Nat} {ls : Array Slot} {rest : List Value} {D : va_G} {cs : Nat → ClassId} {A : Nat → Prop} {a : Nat} {ws : va_W} {own : String} {index b0 n0 n1 : Nat} {f g : Nat → Int32} {dp : Int32}
    (S : Fx p m c cc nL s args own) (hsz : ls.size = nL) (hlink : Cond.methodLink own index arraycopyName ∈ gT) (hnat : Cond.native arraycopyName ∈ gT) (hstat : Cond.static arraycopyName ∈ gT) (hini : Cond.initialized "java/lang/System" ∈ gT) (hK : va_K D vwCl (tyL cs) s) (hW : Wd D A s.heap ws H locs) (hX : va_T .int b0 n0 (fun j => .int (f j)) A s s.heap) (q1 : Nat) (ha1 : ws[q1]? = some (a, .inl (cs 0, n1, .inl g)))
    (h2 : ¬ dp < 0) (h4 : 7 ≤ n0) (h5 : dp.toNatClampNeg + 7 ≤ n1) (hframes : 1 ≤ R.frames) (hlocals : (rest.map fun v => v.category).sum + (nativeFrameWords "java/lang/System" "arraycopy" 5 + 11) ≤ R.locals) (hdg : decode cc pc = .ok (.invokestatic index, 3))
    (kk : ∀ (H1 : Heap) (locs1 : List Loc), Wd D A s.heap (ws.set q1 (a, .inl (cs 0, n1, .inl (va_cpy f g 0 dp.toNatClampNeg 7)))) H1 locs1 → W p l e R s m args below meth c H1 locs1 cells slots Q (F0 m (pc + 3) ls rest)) : W p l e R s m args below meth c H locs cells slots Q (F0 m pc ls (.int 7 :: .int dp :: .ref a :: .int 0 :: .ref b0 :: rest)) := by
  obtain ⟨hP, hD, hS⟩ := hW
  obtain ⟨scr, t1, ⟨t2, k0, hk0, cm0, hkk0⟩, t3, t4, -, t6, t7⟩ := hX
  have hc0 : H[b0]? = some scr := by rw [hS.2.1 b0 (Array.getElem?_eq_some_iff.mp t1).1 t7]; exact t1
  have hc1 : H[a]? = some (vp_cell (cs 0) (n1, .inl g)) := hP q1 _ ha1
  obtain ⟨-, k1, hk1, cm1, hkk1⟩ := (hK.2 0 _ rfl).1 n1 (fun j => .int (g j))
  have d0 : (0 : Int) ≤ dp.toInt := by
    have := Int32.le_iff_toInt_le.mp (Int32.not_lt.mp h2)
    simpa using this
  have d1 : dp.toInt = (dp.toNatClampNeg : Int) := by
    show dp.toInt = ((dp.toInt.toNat : Nat) : Int)
    omega
  have s7 : (7 : Int32).toInt = 7 := by decide
  have s0 : (0 : Int32).toInt = 0 := by decide
  have n7 : (7 : Int32).toNatClampNeg = 7 := by decide
  have n0' : (0 : Int32).toNatClampNeg = 0 := sb_cl0
  intro T hT X
  obtain ⟨vm', X', step⟩ := X.arraycopy S.1 S.2.2.2.1 (S.2.2.2.2 _ hlink) (S.2.2.2.2 _ hnat) (S.2.2.2.2 _ hstat) (S.2.2.2.2 _ hini) (src := b0) (dst := a) (cs := scr) (cd := vp_cell (cs 0) (n1, .inl g)) (srcPos := 0) (destPos := dp) (n := 7) (by rw [hT]; exact hc0) (by rw [hT]; exact hc1)
    t2 (fun _ h => by cases h) t3 (fun h => by cases h) hk0 hk1 hkk0 hkk1 (by simp [refKind]) (by decide) h2 (by decide)
    (by rw [s7, s0]; omega) (by rw [d1, s7]; show ¬ _ > ((arrV (cs 0) n1 (fun j => .int (g j))).slots.size : Int); rw [arrV_size]; omega)
    (fun vm₁ _ i hi => by
      rw [n7] at hi
      have e : scr.slots.getD ((0 : Int32).toNatClampNeg + i) .null = .int (f ((0 : Int32).toNatClampNeg + i)) := by
        rw [n0', Array.getD_eq_getD_getElem?, t6 _ (by omega)]
        rfl
      rw [e]
      exact ⟨rfl, trivial⟩)
    (g := F0 m pc ls (.int 7 :: .int dp :: .ref a :: .int 0 :: .ref b0 :: rest)) rfl (by rw [S.2.2.1]; exact hsz) (rest := rest) rfl (by rw [S.2.1]; exact hdg) hframes (by show 2 * 0 + _ + _ ≤ _; omega)
  have e1 : copied scr (vp_cell (cs 0) (n1, .inl g)) 0 dp 7 = vp_cell (cs 0) (n1, .inl (va_cpy f g 0 dp.toNatClampNeg 7)) := va_copiedX (n0 := n0) (sp := 0) (dp := dp.toNatClampNeg) (n := 7) (fun z => .int z) scr (cs 0) f g t6 (by omega)
  rw [e1] at X' step
  have hl : a < H.size := (Array.getElem?_eq_some_iff.mp hc1).1
  have hheap : ((T.setVm vm').setCell a (vp_cell (cs 0) (n1, .inl (va_cpy f g 0 dp.toNatClampNeg 7)))).heap = H.setIfInBounds a (vp_cell (cs 0) (n1, .inl (va_cpy f g 0 dp.toNatClampNeg 7))) := by rw [← hT]; rfl
  have oq : ∀ q : Nat, q ≠ a → (H.setIfInBounds a (vp_cell (cs 0) (n1, .inl (va_cpy f g 0 dp.toNatClampNeg 7))))[q]? = H[q]? := fun q hq => by simp [Array.getElem?_setIfInBounds, Ne.symm hq]
  have hAa : A a := hD.2 q1 _ ha1
  obtain ⟨t, g1, g2⟩ := kk _ _ ⟨hP.set hD ha1 (show (H.setIfInBounds a _)[a]? = some _ by simp [Array.getElem?_setIfInBounds, hl]) oq, hD.set ha1, ⟨by simp; exact hS.1, fun q z1 z2 => by
      rw [oq q (fun e => z2 (by rw [e]; exact hAa))]
      exact hS.2.1 q z1 z2, fun q hq => by
      rcases List.mem_append.mp hq with h | h
      · exact hS.2.2 q h
      · obtain ⟨z, -, hz⟩ := List.mem_map.mp h
        rw [← hz]
        exact hAa⟩⟩ _ hheap X'
  exact ⟨t, step t g1, g2⟩
def KiX (l : Launch) (D : va_G) (cs : Nat → ClassId) (y : MethodName) (b : ByteArray) (n : Nat) (rt : Option FieldType) (fr lo : Nat) (w : va_W) (av : List Value) (told L : Nat) (xs : Nat → Int32) (r : Int32) (w' : va_W) : Prop :=
  ∀ sz, Met l y (.code y b n rt :: gT) { frames := fr, cells := 0, slots := 0, locals := lo } (va_Pc av (fun U => Kp D cs none w sz U ∧ va_T .int told L (fun j => .int (xs j)) (va_A w sz) U U.heap)) (va_Qi (fun (x : Int32) (_ : Unit) => x = r) (Kq D cs w' (va_A w sz)) (va_A w sz)) 0 0 (va_A w sz)
theorem k_told {D : va_G} {cs : Nat → ClassId} {A : Nat → Prop} {s : State} {H : Heap} {locs : List Loc} {pre mid post : va_W} {told L : Nat} {xs : Nat → Int32} (hK : va_K D vwCl (tyL cs) s) (hW : Wd D A s.heap (pre ++ (mid ++ post)) H locs) (k0 : Nat) (hk : pre[k0]? = some (told, .inl (cs 0, L, .inl xs))) :
    ∀ U : State, U.heap = H → s.WarmedH U.vm → va_T .int told L (fun j => .int (xs j)) (va_A mid H.size) U U.heap := by
  intro U hU hWm
  obtain ⟨hP, hD, hS⟩ := hW
  have hm := List.mem_of_getElem? hk
  have h1 := vaP_mem.mp hP _ (List.mem_append_left _ hm)
  have hc : H[told]? = some (vp_cell (cs 0) (L, .inl xs)) := h1
  obtain ⟨-, -, x1⟩ := vaD_split hD
  have hKU : va_K D vwCl (tyL cs) U := va_K.moved hWm.alike hK
  refine ⟨vp_cell (cs 0) (L, .inl xs), by rw [hU]; exact hc, (hKU.2 0 _ rfl).1 L (fun j => .int (xs j)), fun q => (by cases q), Nat.le_of_eq (by rw [vp_cell_i, arrV_size]), by rw [vp_cell_i, arrV_size] <;> first | done | rfl, fun j hj => by rw [vp_cell_i, arrV_read _ _ hj], fun h => ?_⟩
  rcases vaA_mem h with ⟨e, he⟩ | h
  · exact x1 _ hm _ (List.mem_append_left _ he) rfl
  · exact absurd h1.lt (Nat.not_lt.mpr h)
section KX
variable {p : Program} {l : Launch} {e : Env} {R : Room} {s : State} {m : MethodId} {args : Array Value} {below : List Frame} {meth : Method} {c : Code} {H : Heap} {locs : List Loc} {cells slots : Nat} {Q : State → Prop}
variable {cc : ByteArray} {pc nL : Nat} {ls : Array Slot} {rest st0 : List Value} {D : va_G} {cs : Nat → ClassId} {A : Nat → Prop} {own : String} {mid mid' : va_W} {y : MethodName} {b : ByteArray} {n fr lo idx a0 ci told K0 : Nat} {xs : Nat → Int32} {rt : Option FieldType} {As fs : List Value} {q : vw_C}
theorem kVX_i {r : Int32} (S : Fx p m c cc nL s args own) (hK : va_K D vwCl (tyL cs) s) (hA : ∀ x, s.heap.size ≤ x → A x) (pre post : va_W) (hW : Wd D A s.heap (pre ++ (mid ++ post)) H locs) (hM : KiX l D cs y b n rt fr lo mid (.ref a0 :: As) told K0 xs r mid') (hT : ∀ U : State, U.heap = H → s.WarmedH U.vm → va_T .int told K0 (fun j => .int (xs j)) (va_A mid H.size) U U.heap) (hc : vwCl[ci]? = some q) (he : mid[0]? = some (a0, .inr (ci, fs)))
    (L : Lk own idx y b n rt As.length) (hi : Cond.instanceMethod y ∈ gT) (hs : Cond.selects q.1 y y ∈ gT) (hR : fr + 1 ≤ R.frames ∧ 8 + (n + 11) + lo ≤ R.locals) (hst : st0 = As.reverse ++ .ref a0 :: rest) (hcat : (rest.map fun v => v.category).sum ≤ 8) (hsz : ls.size = nL) (hdg : decode cc pc = .ok (.invokevirtual idx, 3)) (hf : cells ≤ R.cells ∧ slots ≤ R.slots)
    (kk : ∀ (H : Heap) (locs : List Loc), Wd D A s.heap (pre ++ (mid' ++ post)) H locs → W p l e R s m args below meth c H locs cells slots Q (F0 m (pc + 3) ls (.int r :: rest))) : W p l e R s m args below meth c H locs cells slots Q (F0 m pc ls st0) := by
  obtain ⟨hPc, hDc, hF, hU⟩ := k_pre (z := none) hK hA trivial hW
  refine va_calli (va_runV (C := q.1) (As := As) (rest := rest) S (hM H.size) ⟨k_cb S L hR, S.2.2.2.2 _ hi, S.2.2.2.2 _ hs⟩ ⟨fun a U g mk h9 => ?_, va_recv hK hPc hc he, fun U h1 h2 => ⟨rfl, hU U h1 h2, hT U h1 h2⟩⟩ rfl rfl hsz hst (lv_room (m := m) (pc := pc) (ls := ls) (rest := st0) hcat) hdg hf) hW.2.2 (fun x _ h => hF x h) hF (fun r1 u t H1 locs1 ht hvm hw hB hz1 hk1 hS => ?_)
  · obtain ⟨e1, e2, e3⟩ := h9
    exact ⟨e1, (Kp.blind a U g mk (⟨e1, e2⟩ : va_Pc _ _ a U)).2, e3.moved (U := U.calling g mk a) (Vm.Alike.refl U.vm)⟩
  · subst hw
    exact kk H1 locs1 (k_post hW hF ht hB hk1 hS)
end KX
set_option maxHeartbeats 4000000 in
set_option maxRecDepth 100000 in
theorem c_Ro_addReader (l : Launch) (D : va_G) (cs : Nat → ClassId) (a : Nat → Nat) (told : Nat) (xs : Nat → Int32) (ρ : St) (N : Nat) {r : Int32} {ρ' : St} (h : fRo_addReader N xs ρ = some (r, ρ')) : KiX l D cs yX3_addReader cX3_addReader 2 (some .boolean) 1 60 (wRo cs a ρ) [.ref (a 0), .ref told] told 7 xs r (wRo cs a ρ') := by
  intro sz
  refine Met.ofW (cc := cX3_addReader) (maxL := 2) (ret := some .boolean) (by decide +kernel) rfl ?_
  intro p e s m args below meth c s₁ B hml hv
  obtain ⟨rfl, hKp, hX⟩ := hv
  obtain ⟨-, hsz, S, hK, hA, -, hW⟩ := k_start B hml (⟨rfl, hKp⟩ : va_Pc [.ref (a 0), .ref told] (Kp D cs none (wRo cs a ρ) sz) _ s)
  have hr := B.returns
  have hlocks := B.notSynchronized
  have hl := lv_entry [.ref (a 0), .ref told] (n := 2) (Nat.le_of_ble_eq_true rfl)
  rw [lg_entry_eq]
  subst hsz
  generalize va_A (wRo cs a ρ) s.heap.size = A at hA hW hX ⊢
  generalize (lg_sl ([.ref (a 0), .ref told]) ++ List.replicate (2 - (lg_sl ([.ref (a 0), .ref told])).length) Slot.unset).toArray = ls at hl ⊢
  have hl : lv_has ls 2 [(0, .ref (a 0)), (1, .ref told)] := hl
  have S : Fx p m c cX3_addReader 2 s #[.ref (a 0), .ref told] RX3 := S
  have done : ∀ (H : Heap) (locs : List Loc) (pc : Nat) (ls : Array Slot), decode cX3_addReader pc = .ok (.ireturn, 1) → narrow .boolean (.int r) = .int r → Wd D A s.heap (wRo cs a ρ') H locs → W p l e { frames := 1, cells := 0, slots := 0, locals := 60 } s m #[.ref (a 0), .ref told] below meth c H locs 0 0 (MQ below (va_Qi (fun (x : Int32) (_ : Unit) => x = r) (Kq D cs (wRo cs a ρ') A) A) #[.ref (a 0), .ref told] s 0 0 A) (F0 m pc ls [.int r]) := by
    intro H locs pc ls hd hnw hW
    exact W.zret (v := r) S.1 S.2.1 hr hnw (fun t ht hWm => ⟨⟨r, (), rfl, rfl, by rw [ht]; exact hW.1, va_K.moved hWm.alike hK, hW.2.1⟩, hW.2.2.F ht⟩) hW.2.2.2.2 hd
  unfold fRo_addReader at h
  refine lv_aload_n S.1 S.2.1 dX3_addReader_0 rfl (lv_at hl 0 rfl) ?_
  refine gRo_readers S hK hW dX3_addReader_1 ?_
  refine lv_bipush (v := 8) S.1 S.2.1 dX3_addReader_4 (by decide) ?_
  refine lv_icmp_ge (tgt := 16) S.1 S.2.1 dX3_addReader_6 (by decide) (fun c1 => ?_) (fun c1 => ?_)
  · have h := ite_t c1 h
    refine lv_iconst (v := 0) S.1 S.2.1 dX3_addReader_16 (by decide) ?_
    obtain ⟨rfl, rfl⟩ := pr2 h
    exact done _ _ _ _ dX3_addReader_17 rfl hW
  · have h := ite_f c1 h
    refine lv_aload_n S.1 S.2.1 dX3_addReader_9 rfl (lv_at hl 1 rfl) ?_
    refine va_tlen S.1 S.2.1 hX hW.2.2 rfl dX3_addReader_10 ?_
    refine lv_bipush (v := 7) S.1 S.2.1 dX3_addReader_11 (by decide) ?_
    refine lv_icmp_ge (tgt := 18) S.1 S.2.1 dX3_addReader_13 (by decide) (fun c2 => ?_) (fun c2 => ?_)
    · obtain ⟨g1, g2, h⟩ := gC_some h
      refine lv_aload_n S.1 S.2.1 dX3_addReader_18 rfl (lv_at hl 1 rfl) ?_
      refine lv_iconst (v := 0) S.1 S.2.1 dX3_addReader_19 (by decide) ?_
      refine lv_aload_n S.1 S.2.1 dX3_addReader_20 rfl (lv_at hl 0 rfl) ?_
      refine gRo_numbers S hK hW dX3_addReader_21 ?_
      refine lv_aload_n S.1 S.2.1 dX3_addReader_24 rfl (lv_at hl 0 rfl) ?_
      refine gRo_readers S hK hW dX3_addReader_25 ?_
      refine lv_bipush (v := 7) S.1 S.2.1 dX3_addReader_28 (by decide) ?_
      refine lv_imul S.1 S.2.1 dX3_addReader_30 ?_
      refine lv_bipush (v := 7) S.1 S.2.1 dX3_addReader_31 (by decide) ?_
      obtain ⟨ρ_1, eρ_1, h⟩ := nm_some h
      refine k_copyT S hl.1 q139 q141 q140 q44 hK hW hX 2 rfl g1 (Nat.le_refl 7) g2 (Nat.le_of_ble_eq_true rfl) (Nat.le_of_ble_eq_true rfl) dX3_addReader_33 (fun H locs hW => ?_)
      have hW : Wd D A s.heap (wRo cs a ρ_1) H locs := by rw [eρ_1]; exact hW
      refine lv_aload_n S.1 S.2.1 dX3_addReader_36 rfl (lv_at hl 0 rfl) ?_
      refine lv_dup S.1 S.2.1 dX3_addReader_37 rfl ?_
      refine gRo_readers S hK hW dX3_addReader_38 ?_
      refine lv_iconst (v := 1) S.1 S.2.1 dX3_addReader_41 (by decide) ?_
      refine lv_iadd S.1 S.2.1 dX3_addReader_42 ?_
      refine pRo_readers S hK hW dX3_addReader_43 (fun H locs ρ_2 eρ_2 hW => ?_)
      have h := nm_to eρ_2 h
      refine lv_iconst (v := 1) S.1 S.2.1 dX3_addReader_46 (by decide) ?_
      obtain ⟨rfl, rfl⟩ := pr2 h
      exact done _ _ _ _ dX3_addReader_47 rfl hW
    · exact absurd (by decide) c2
