/-! THE CLAIM OUT OF ONE WALK OF THE LAW'S BODY. Your part is whole_start (and what it stands on); all else here is the same for every law, but numbers. -/
def R_law : String := "CoatsOnChairsLaw"
def lw_P (b : Addr) (xs : List Int32) (args : Array Value) (s : State) : Prop := args = #[.ref b] ∧ s.IntsAt b xs ∧ xs.length ≤ 2560 ∧ (Jvm.Cond.and given_1 narrow_1).before args s = true
def lw_Q (_ : Array Value) (s : State) (o : Outcome) (t : State) : Prop := o = .returned (some (.int 1)) ∧ Framed s o t [] 47 4456
def lw_Z (below : List Frame) (a : Array Value) (s : State) : State → Prop := fun t => ∃ o, t.status = .running ∧ Ended t below o ∧ lw_Q a s o t
/-- the law's own end, with 1 on the stack, nothing written that was there before, its room as the claim has it -/
theorem lw_ret {p : Program} {l : Launch} {e : Env} {s : State} {m : MethodId} {below : List Frame} {meth : Method} {c : Code} {b : Nat} (hx : p.tables.exec = Jvm.exec) (hb : c.code = code) (hr : meth.sig.returnType = ret) (hlocks : meth.locks = false) {pc : Nat} {H : Heap} {ls : Array Slot} (hdg : decode code pc = .ok (.ireturn, 1)) : W p l e room_1 s m #[Value.ref b] below meth c H [] 47 4456 (lw_Z below #[Value.ref b] s) (F0 m pc ls [.int 1]) := by
  intro T hT X
  obtain ⟨fs, hret, hrun, hended, hW, hframe⟩ := X.leave (v := some (.int 1)) (hlocks := hlocks) (fun h => by rw [hr] at h; cases h)
  have hmeth' : T.vm.method? m = some meth := X.method'
  refine ⟨T.setFrames fs, ?_, .returned (some (.int 1)), hrun, hended, rfl, ⟨_, rfl⟩, hW, hframe⟩
  jvm_step X.here [X.here.top, hx, hb, hdg, hmeth', hr, ret, narrow_b1]
  (try refine ⟨rfl, ?_⟩); (try refine ⟨rfl, ?_⟩)
  first | (intro acts; rw [hret _ acts rfl rfl rfl]) | rw [hret _ _ rfl rfl rfl]
  exact Steps.refl _
/-- what holds at the law's entry: the machine, the code, the tables' words (any of lw_tbl by 'hts w (by decide +kernel)'), the script of L ints xs at the cell b, what the Statement gives of the start (any of its parts by flat_of_before) -/
def lw_At (p : Program) (s : State) (m : MethodId) (meth : Method) (c : Code) (b L : Nat) (xs : Nat → Int32) : Prop :=
  p.tables.exec = Jvm.exec ∧ c.code = code ∧ meth.sig.returnType = ret ∧ c.maxLocals = 4 ∧ s.vm.findClass R_law = some m.cls ∧ (∀ w ∈ lw_tbl, w.before #[Value.ref b] s = true) ∧ va_X b L xs s s.heap ∧ b < s.heap.size ∧ meth.locks = false ∧ (Jvm.Cond.and given_1 narrow_1).before #[Value.ref b] s = true
set_option maxHeartbeats 8000000 in
set_option maxRecDepth 100000 in
/-- THE LAW'S LOOP: at its head, i ints read, the two objects stand in Rel -/
theorem law_loop {p : Program} {l : Launch} {e : Env} {s : State} {m : MethodId} {below : List Frame} {meth : Method} {c : Code} {D : va_G} {cs : Nat → ClassId} {fs a aS aT aG aD aM : Nat → Nat} {b L N : Nat} {xs : Nat → Int32} (hL : L ≤ 2560) (hNN : 5000 ≤ N) (C0 : lw_At p s m meth c b L xs) (hK : va_K D vwCl (tyL cs) s) (hZ : Zf fs (fun q : Nat => s.heap.size ≤ q) s s.heap) :
    ∀ (n i : Nat) (x3 : Int32), i ≤ L + 5 → L + 6 ≤ i + n → x3 = nI i → ∀ (aE aR : Nat → Nat) (μ ς τ ε γ : St) (Γ : Nat → Int64) (δ ρ σ : St) (Λ : Nat → Int64) (dr : Nat), Rel N μ τ γ Γ ρ σ → ∀ (H : Heap) (locs : List Loc) (ls : Array Slot), Wd D (fun q : Nat => s.heap.size ≤ q) s.heap ((wMa cs a (aT 0) (aS 0) (aD 0) (aG 0) (aR 0) (aE 0) μ ++ (wSc cs aS (aT 0) ς ++ (wTe cs aT τ ++ (wRo cs aE ε ++ (wGa cs aG (aD 0) (aR 0) γ Γ ++ (wDa cs aD dr δ ++ (wRo cs aR ρ))))))) ++ (wMo cs aM σ Λ)) H locs → lv_has ls 4 [(0, .ref b), (1, .ref (a 0)), (2, .ref (aM 0)), (3, .int x3)] → W p l e room_1 s m #[Value.ref b] below meth c H locs 47 4456 (lw_Z below #[Value.ref b] s) (F0 m 18 ls []) := by
  obtain ⟨hx, hb, hr, hml, hown, hts0, hX, hbl, hlocks, hgv⟩ := C0
  have S : Fx p m c cL_law 4 s #[Value.ref b] RL := ⟨hx, hb, hml, hown, gT_lw hts0⟩
  have hA : ∀ x : Nat, s.heap.size ≤ x → (fun q : Nat => s.heap.size ≤ q) x := fun _ h => h
  have hbA : ¬ (fun q : Nat => s.heap.size ≤ q) b := Nat.not_le.mpr hbl
  intro n
  induction n with
  | zero =>
    intro i x3 h1 h2
    exact absurd h2 (by omega)
  | succ n ih =>
    intro i x3 hi hin ex3 aE aR μ ς τ ε γ Γ δ ρ σ Λ dr hR H locs ls hW hl
    refine lv_iload_n S.1 S.2.1 dL_law_18 rfl (lv_at hl 3 rfl) ?_
    refine lv_aload_n S.1 S.2.1 dL_law_19 rfl (lv_at hl 0 rfl) ?_
    refine va_slen S.1 S.2.1 hX hbl hbA hW.2.2 dL_law_20 ?_
    refine lv_iconst (v := 5) S.1 S.2.1 dL_law_21 (by decide) ?_
    refine lv_isub S.1 S.2.1 dL_law_22 ?_
    refine lv_icmp_gt (tgt := 973) S.1 S.2.1 dL_law_23 (by decide) (fun c1 => ?_) (fun c1 => ?_)
    · refine lv_iconst (v := 1) S.1 S.2.1 dL_law_973 (by decide) ?_
      refine va_forget (fun q hq => hW.2.2.2.2 q hq) ?_
      exact lw_ret hx hb hr hlocks dL_law_974
    · have hlt : i + 5 ≤ L := by
        rcases Nat.lt_or_ge L (i + 5) with q | q
        · refine absurd ?_ c1
          rw [ex3]
          refine Int32.lt_iff_toInt_lt.mpr ?_
          have z := pk_sub_toInt (a := L) (b := 5) (by omega) (by omega)
          have z2 : (Int32.ofNat L - 5).toInt = (L : Int) - 5 := z
          rw [z2, nI_toInt (by omega)]
          omega
        · exact q
      have hi0 : vp_in x3 L := by rw [ex3]; exact vp_in_nI (by omega) (by omega)
      have hi1 : vp_in (x3 + 1) L := by rw [ex3, show (1 : Int32) = nI 1 from rfl, nI_add]; exact vp_in_nI (by omega) (by omega)
      have hi2 : vp_in (x3 + 2) L := by rw [ex3, show (2 : Int32) = nI 2 from rfl, nI_add]; exact vp_in_nI (by omega) (by omega)
      have hi3 : vp_in (x3 + 3) L := by rw [ex3, show (3 : Int32) = nI 3 from rfl, nI_add]; exact vp_in_nI (by omega) (by omega)
      have hi4 : vp_in (x3 + 4) L := by rw [ex3, show (4 : Int32) = nI 4 from rfl, nI_add]; exact vp_in_nI (by omega) (by omega)
      have cont : ∀ (aE aR : Nat → Nat) (μ ς τ ε γ : St) (Γ : Nat → Int64) (δ ρ σ : St) (Λ : Nat → Int64) (dr : Nat), Rel N μ τ γ Γ ρ σ → ∀ (H : Heap) (locs : List Loc) (ls : Array Slot), Wd D (fun q : Nat => s.heap.size ≤ q) s.heap ((wMa cs a (aT 0) (aS 0) (aD 0) (aG 0) (aR 0) (aE 0) μ ++ (wSc cs aS (aT 0) ς ++ (wTe cs aT τ ++ (wRo cs aE ε ++ (wGa cs aG (aD 0) (aR 0) γ Γ ++ (wDa cs aD dr δ ++ (wRo cs aR ρ))))))) ++ (wMo cs aM σ Λ)) H locs → lv_has ls 4 [(0, .ref b), (1, .ref (a 0)), (2, .ref (aM 0)), (3, .int x3)] → W p l e room_1 s m #[Value.ref b] below meth c H locs 47 4456 (lw_Z below #[Value.ref b] s) (F0 m 967 ls []) := by
        intro aE aR μ ς τ ε γ Γ δ ρ σ Λ dr hR H locs ls hW hl
        obtain ⟨x4, ex4⟩ : ∃ y : Int32, y = x3 + 5 := ⟨_, rfl⟩
        refine lv_iinc (v := x4) (lv' := [(3, .int x4), (0, .ref b), (1, .ref (a 0)), (2, .ref (aM 0))]) S.1 S.2.1 dL_law_967 hl (k := 3) rfl (by rw [ex4]; rfl) (by decide) rfl (fun ls hl => ?_)
        refine lv_goto (tgt := 18) S.1 S.2.1 dL_law_970 (by decide) ?_
        exact ih (i + 5) x4 (by omega) (by omega) (by rw [ex4, ex3, show (5 : Int32) = nI 5 from rfl, nI_add]) aE aR μ ς τ ε γ Γ δ ρ σ Λ dr hR H locs ls hW (lv_sub hl [1, 2, 3, 0] rfl)
      refine lv_aload_n S.1 S.2.1 dL_law_26 rfl (lv_at hl 0 rfl) ?_
      refine lv_iload_n S.1 S.2.1 dL_law_27 rfl (lv_at hl 3 rfl) ?_
      refine va_sld S.1 S.2.1 hX hbl hbA hW.2.2 hi0 dL_law_28 ?_
      refine lv_bipush (v := 31) S.1 S.2.1 dL_law_29 (by decide) ?_
      refine lv_iand S.1 S.2.1 dL_law_31 ?_
      refine lv_topi (fun y ey => ?_)
      rcases Classical.em (y = 0) with k0 | k0
      · refine lv_tableIn (off := 120) (tgt := 152) S.1 S.2.1 dL_law_32 (by rw [k0]; decide) (by rw [k0]; decide) (by rw [k0]; decide) (by decide) ?_
        obtain ⟨r, τ', σ', hx1, hm1, hR1⟩ := P_write (ς := ς) (ε := ε) (δ := δ) (Λ := Λ) (dr := dr) (r0 := aR 0) hNN hR (xs (x3 + 1).toNatClampNeg) ((((xs (x3 + 2).toNatClampNeg).toInt64) <<< ((32 : Int32).toInt64 &&& 63)) ||| (((xs (x3 + 3).toNatClampNeg).toInt64) &&& (4294967295 : Int64)))
        exact wLaw_0 (N := N) S hK hA hZ hX hbl hbA hi1 hi2 hi3 hi4 hx1 hm1 (fun H locs ls hW hl => cont aE aR μ ς τ' ε γ Γ δ ρ σ' Λ dr hR1 H locs ls hW hl) _ _ _ hW hl
      rcases Classical.em (y = 1) with k1 | k1
      · refine lv_tableIn (off := 183) (tgt := 215) S.1 S.2.1 dL_law_32 (by rw [k1]; decide) (by rw [k1]; decide) (by rw [k1]; decide) (by decide) ?_
        obtain ⟨r, τ', σ', hx1, hm1, hR1⟩ := P_wipe (ς := ς) (ε := ε) (δ := δ) (Λ := Λ) (dr := dr) (r0 := aR 0) hNN hR
        exact wLaw_1 (N := N) S hK hA hZ hX hbl hbA hi1 hi2 hi3 hi4 hx1 hm1 (fun H locs ls hW hl => cont aE aR μ ς τ' ε γ Γ δ ρ σ' Λ dr hR1 H locs ls hW hl) _ _ _ hW hl
      rcases Classical.em (y = 2) with k2 | k2
      · refine lv_tableIn (off := 196) (tgt := 228) S.1 S.2.1 dL_law_32 (by rw [k2]; decide) (by rw [k2]; decide) (by rw [k2]; decide) (by decide) ?_
        obtain ⟨r, ς', ε', σ', hx1, hm1, hR1⟩ := P_fault (ς := ς) (ε := ε) (δ := δ) (Λ := Λ) (dr := dr) (r0 := aR 0) hNN hR
        exact wLaw_2 (N := N) S hK hA hZ hX hbl hbA hi1 hi2 hi3 hi4 hx1 hm1 (fun H locs ls hW hl => cont aE aR μ ς' τ ε' γ Γ δ ρ σ' Λ dr hR1 H locs ls hW hl) _ _ _ hW hl
      rcases Classical.em (y = 3) with k3 | k3
      · refine lv_tableIn (off := 209) (tgt := 241) S.1 S.2.1 dL_law_32 (by rw [k3]; decide) (by rw [k3]; decide) (by rw [k3]; decide) (by decide) ?_
        obtain ⟨r, bb, μ', ς', ε', γ', ρ', σ', hx1, hm1, hR1⟩ := P_lay (ς := ς) (ε := ε) (δ := δ) (Λ := Λ) (dr := dr) (r0 := aR 0) hNN hR
        exact wLaw_3 (N := N) S hK hA hZ hX hbl hbA hi1 hi2 hi3 hi4 hx1 hm1 (fun H locs ls hW hl => cont (cond bb aR aE) (cond bb aE aR) μ' ς' τ ε' γ' Γ δ ρ' σ' Λ dr hR1 H locs ls hW hl) _ _ _ hW hl
      rcases Classical.em (y = 4) with k4 | k4
      · refine lv_tableIn (off := 222) (tgt := 254) S.1 S.2.1 dL_law_32 (by rw [k4]; decide) (by rw [k4]; decide) (by rw [k4]; decide) (by decide) ?_
        obtain ⟨r, hx1, hm1, hR1⟩ := P_reader (ς := ς) (ε := ε) (δ := δ) (Λ := Λ) (dr := dr) (r0 := aR 0) hNN hR (xs (x3 + 1).toNatClampNeg) (xs (x3 + 2).toNatClampNeg)
        exact wLaw_4 (N := N) S hK hA hZ hX hbl hbA hi1 hi2 hi3 hi4 hx1 hm1 (fun H locs ls hW hl => cont aE aR μ ς τ ε γ Γ δ ρ σ Λ dr hR1 H locs ls hW hl) _ _ _ hW hl
      rcases Classical.em (y = 5) with k5 | k5
      · refine lv_tableIn (off := 255) (tgt := 287) S.1 S.2.1 dL_law_32 (by rw [k5]; decide) (by rw [k5]; decide) (by rw [k5]; decide) (by decide) ?_
        obtain ⟨r, hx1, hm1, hR1⟩ := P_kind (ς := ς) (ε := ε) (δ := δ) (Λ := Λ) (dr := dr) (r0 := aR 0) hNN hR (xs (x3 + 1).toNatClampNeg)
        exact wLaw_5 (N := N) S hK hA hZ hX hbl hbA hi1 hi2 hi3 hi4 hx1 hm1 (fun H locs ls hW hl => cont aE aR μ ς τ ε γ Γ δ ρ σ Λ dr hR1 H locs ls hW hl) _ _ _ hW hl
      rcases Classical.em (y = 6) with k6 | k6
      · refine lv_tableIn (off := 278) (tgt := 310) S.1 S.2.1 dL_law_32 (by rw [k6]; decide) (by rw [k6]; decide) (by rw [k6]; decide) (by decide) ?_
        rcases Classical.em (xs (x3 + 2).toNatClampNeg = 0) with hz | hz
        · skip
          obtain ⟨r, μ', σ', hx1, hm1, hR1⟩ := P_hold (ς := ς) (ε := ε) (δ := δ) (Λ := Λ) (dr := dr) (r0 := aR 0) hNN hR (xs (x3 + 1).toNatClampNeg) 0 (Or.inl rfl)
          exact wLaw_6z (N := N) S hK hA hZ hX hbl hbA hi1 hi2 hi3 hi4 hz hx1 hm1 (fun H locs ls hW hl => cont aE aR μ' ς τ ε γ Γ δ ρ σ' Λ dr hR1 H locs ls hW hl) _ _ _ hW hl
        · skip
          obtain ⟨r, μ', σ', hx1, hm1, hR1⟩ := P_hold (ς := ς) (ε := ε) (δ := δ) (Λ := Λ) (dr := dr) (r0 := aR 0) hNN hR (xs (x3 + 1).toNatClampNeg) 1 (Or.inr rfl)
          exact wLaw_6o (N := N) S hK hA hZ hX hbl hbA hi1 hi2 hi3 hi4 hz hx1 hm1 (fun H locs ls hW hl => cont aE aR μ' ς τ ε γ Γ δ ρ σ' Λ dr hR1 H locs ls hW hl) _ _ _ hW hl
      rcases Classical.em (y = 7) with k7 | k7
      · refine lv_tableIn (off := 327) (tgt := 359) S.1 S.2.1 dL_law_32 (by rw [k7]; decide) (by rw [k7]; decide) (by rw [k7]; decide) (by decide) ?_
        obtain ⟨r, δ', dr', σ', hx1, hm1, hR1⟩ := P_seat (ς := ς) (ε := ε) (δ := δ) (Λ := Λ) (dr := dr) (r0 := aR 0) hNN hR (xs (x3 + 1).toNatClampNeg) (xs (x3 + 2).toNatClampNeg) (xs (x3 + 3).toNatClampNeg) (xs (x3 + 4).toNatClampNeg)
        exact wLaw_7 (N := N) S hK hA hZ hX hbl hbA hi1 hi2 hi3 hi4 hx1 hm1 (fun H locs ls hW hl => cont aE aR μ ς τ ε γ Γ δ' ρ σ' Λ dr' hR1 H locs ls hW hl) _ _ _ hW hl
      rcases Classical.em (y = 8) with k8 | k8
      · refine lv_tableIn (off := 380) (tgt := 412) S.1 S.2.1 dL_law_32 (by rw [k8]; decide) (by rw [k8]; decide) (by rw [k8]; decide) (by decide) ?_
        obtain ⟨r, δ', dr', σ', hx1, hm1, hR1⟩ := P_does (ς := ς) (ε := ε) (δ := δ) (Λ := Λ) (dr := dr) (r0 := aR 0) hNN hR (xs (x3 + 1).toNatClampNeg) (xs (x3 + 2).toNatClampNeg) (xs (x3 + 3).toNatClampNeg)
        exact wLaw_8 (N := N) S hK hA hZ hX hbl hbA hi1 hi2 hi3 hi4 hx1 hm1 (fun H locs ls hW hl => cont aE aR μ ς τ ε γ Γ δ' ρ σ' Λ dr' hR1 H locs ls hW hl) _ _ _ hW hl
      rcases Classical.em (y = 9) with k9 | k9
      · refine lv_tableIn (off := 423) (tgt := 455) S.1 S.2.1 dL_law_32 (by rw [k9]; decide) (by rw [k9]; decide) (by rw [k9]; decide) (by decide) ?_
        obtain ⟨r, δ', dr', σ', hx1, hm1, hR1⟩ := P_day (ς := ς) (ε := ε) (δ := δ) (Λ := Λ) (dr := dr) (r0 := aR 0) hNN hR (xs (x3 + 1).toNatClampNeg) (xs (x3 + 2).toNatClampNeg)
        exact wLaw_9 (N := N) S hK hA hZ hX hbl hbA hi1 hi2 hi3 hi4 hx1 hm1 (fun H locs ls hW hl => cont aE aR μ ς τ ε γ Γ δ' ρ σ' Λ dr' hR1 H locs ls hW hl) _ _ _ hW hl
      rcases Classical.em (y = 10) with k10 | k10
      · refine lv_tableIn (off := 456) (tgt := 488) S.1 S.2.1 dL_law_32 (by rw [k10]; decide) (by rw [k10]; decide) (by rw [k10]; decide) (by decide) ?_
        obtain ⟨r, δ', dr', σ', hx1, hm1, hR1⟩ := P_sat (ς := ς) (ε := ε) (δ := δ) (Λ := Λ) (dr := dr) (r0 := aR 0) hNN hR (xs (x3 + 1).toNatClampNeg) (xs (x3 + 2).toNatClampNeg)
        exact wLaw_10 (N := N) S hK hA hZ hX hbl hbA hi1 hi2 hi3 hi4 hx1 hm1 (fun H locs ls hW hl => cont aE aR μ ς τ ε γ Γ δ' ρ σ' Λ dr' hR1 H locs ls hW hl) _ _ _ hW hl
      rcases Classical.em (y = 11) with k11 | k11
      · refine lv_tableIn (off := 489) (tgt := 521) S.1 S.2.1 dL_law_32 (by rw [k11]; decide) (by rw [k11]; decide) (by rw [k11]; decide) (by decide) ?_
        obtain ⟨r, μ', δ', dr', σ', hx1, hm1, hR1⟩ := P_bettered (ς := ς) (ε := ε) (δ := δ) (Λ := Λ) (dr := dr) (r0 := aR 0) hNN hR
        exact wLaw_11 (N := N) S hK hA hZ hX hbl hbA hi1 hi2 hi3 hi4 hx1 hm1 (fun H locs ls hW hl => cont aE aR μ' ς τ ε γ Γ δ' ρ σ' Λ dr' hR1 H locs ls hW hl) _ _ _ hW hl
      rcases Classical.em (y = 12) with k12 | k12
      · refine lv_tableIn (off := 502) (tgt := 534) S.1 S.2.1 dL_law_32 (by rw [k12]; decide) (by rw [k12]; decide) (by rw [k12]; decide) (by decide) ?_
        obtain ⟨r, γ', Γ', δ', dr', σ', hx1, hm1, hR1⟩ := P_rest (ς := ς) (ε := ε) (δ := δ) (Λ := Λ) (dr := dr) (r0 := aR 0) hNN hR (xs (x3 + 1).toNatClampNeg) (xs (x3 + 2).toNatClampNeg)
        exact wLaw_12 (N := N) S hK hA hZ hX hbl hbA hi1 hi2 hi3 hi4 hx1 hm1 (fun H locs ls hW hl => cont aE aR μ ς τ ε γ' Γ' δ' ρ σ' Λ dr' hR1 H locs ls hW hl) _ _ _ hW hl
      rcases Classical.em (y = 13) with k13 | k13
      · refine lv_tableIn (off := 535) (tgt := 567) S.1 S.2.1 dL_law_32 (by rw [k13]; decide) (by rw [k13]; decide) (by rw [k13]; decide) (by decide) ?_
        obtain ⟨r, γ', Γ', δ', dr', σ', hx1, hm1, hR1⟩ := P_rests (ς := ς) (ε := ε) (δ := δ) (Λ := Λ) (dr := dr) (r0 := aR 0) hNN hR (xs (x3 + 1).toNatClampNeg) (xs (x3 + 2).toNatClampNeg)
        exact wLaw_13 (N := N) S hK hA hZ hX hbl hbA hi1 hi2 hi3 hi4 hx1 hm1 (fun H locs ls hW hl => cont aE aR μ ς τ ε γ' Γ' δ' ρ σ' Λ dr' hR1 H locs ls hW hl) _ _ _ hW hl
      rcases Classical.em (y = 14) with k14 | k14
      · refine lv_tableIn (off := 568) (tgt := 600) S.1 S.2.1 dL_law_32 (by rw [k14]; decide) (by rw [k14]; decide) (by rw [k14]; decide) (by decide) ?_
        obtain ⟨r, δ', dr', σ', hx1, hm1, hR1⟩ := P_rounds (ς := ς) (ε := ε) (δ := δ) (Λ := Λ) (dr := dr) (r0 := aR 0) hNN hR (xs (x3 + 1).toNatClampNeg) (xs (x3 + 2).toNatClampNeg)
        exact wLaw_14 (N := N) S hK hA hZ hX hbl hbA hi1 hi2 hi3 hi4 hx1 hm1 (fun H locs ls hW hl => cont aE aR μ ς τ ε γ Γ δ' ρ σ' Λ dr' hR1 H locs ls hW hl) _ _ _ hW hl
      rcases Classical.em (y = 15) with k15 | k15
      · refine lv_tableIn (off := 601) (tgt := 633) S.1 S.2.1 dL_law_32 (by rw [k15]; decide) (by rw [k15]; decide) (by rw [k15]; decide) (by decide) ?_
        obtain ⟨r, δ', dr', σ', hx1, hm1, hR1⟩ := P_often (ς := ς) (ε := ε) (δ := δ) (Λ := Λ) (dr := dr) (r0 := aR 0) hNN hR (xs (x3 + 1).toNatClampNeg) (xs (x3 + 2).toNatClampNeg)
        exact wLaw_15 (N := N) S hK hA hZ hX hbl hbA hi1 hi2 hi3 hi4 hx1 hm1 (fun H locs ls hW hl => cont aE aR μ ς τ ε γ Γ δ' ρ σ' Λ dr' hR1 H locs ls hW hl) _ _ _ hW hl
      rcases Classical.em (y = 16) with k16 | k16
      · refine lv_tableIn (off := 634) (tgt := 666) S.1 S.2.1 dL_law_32 (by rw [k16]; decide) (by rw [k16]; decide) (by rw [k16]; decide) (by decide) ?_
        obtain ⟨r, δ', dr', σ', hx1, hm1, hR1⟩ := P_porter (ς := ς) (ε := ε) (δ := δ) (Λ := Λ) (dr := dr) (r0 := aR 0) hNN hR (xs (x3 + 1).toNatClampNeg)
        exact wLaw_16 (N := N) S hK hA hZ hX hbl hbA hi1 hi2 hi3 hi4 hx1 hm1 (fun H locs ls hW hl => cont aE aR μ ς τ ε γ Γ δ' ρ σ' Λ dr' hR1 H locs ls hW hl) _ _ _ hW hl
      rcases Classical.em (y = 17) with k17 | k17
      · refine lv_tableIn (off := 657) (tgt := 689) S.1 S.2.1 dL_law_32 (by rw [k17]; decide) (by rw [k17]; decide) (by rw [k17]; decide) (by decide) ?_
        obtain ⟨r, δ', dr', σ', hx1, hm1, hR1⟩ := P_card (ς := ς) (ε := ε) (δ := δ) (Λ := Λ) (dr := dr) (r0 := aR 0) hNN hR (xs (x3 + 1).toNatClampNeg)
        exact wLaw_17 (N := N) S hK hA hZ hX hbl hbA hi1 hi2 hi3 hi4 hx1 hm1 (fun H locs ls hW hl => cont aE aR μ ς τ ε γ Γ δ' ρ σ' Λ dr' hR1 H locs ls hW hl) _ _ _ hW hl
      rcases Classical.em (y = 18) with k18 | k18
      · refine lv_tableIn (off := 680) (tgt := 712) S.1 S.2.1 dL_law_32 (by rw [k18]; decide) (by rw [k18]; decide) (by rw [k18]; decide) (by decide) ?_
        obtain ⟨r, Λ', hx1, hm1, hR1⟩ := P_booked (ς := ς) (ε := ε) (δ := δ) (Λ := Λ) (dr := dr) (r0 := aR 0) hNN hR (xs (x3 + 1).toNatClampNeg) (xs (x3 + 2).toNatClampNeg) (xs (x3 + 3).toNatClampNeg) (xs (x3 + 4).toNatClampNeg)
        exact wLaw_18 (N := N) S hK hA hZ hX hbl hbA hi1 hi2 hi3 hi4 hx1 hm1 (fun H locs ls hW hl => cont aE aR μ ς τ ε γ Γ δ ρ σ Λ' dr hR1 H locs ls hW hl) _ _ _ hW hl
      rcases Classical.em (y = 19) with k19 | k19
      · refine lv_tableIn (off := 734) (tgt := 766) S.1 S.2.1 dL_law_32 (by rw [k19]; decide) (by rw [k19]; decide) (by rw [k19]; decide) (by decide) ?_
        obtain ⟨r, hx1, hm1, hR1⟩ := P_over (ς := ς) (ε := ε) (δ := δ) (Λ := Λ) (dr := dr) (r0 := aR 0) hNN hR (xs (x3 + 1).toNatClampNeg) (xs (x3 + 2).toNatClampNeg) (xs (x3 + 3).toNatClampNeg)
        exact wLaw_19 (N := N) S hK hA hZ hX hbl hbA hi1 hi2 hi3 hi4 hx1 hm1 (fun H locs ls hW hl => cont aE aR μ ς τ ε γ Γ δ ρ σ Λ dr hR1 H locs ls hW hl) _ _ _ hW hl
      rcases Classical.em (y = 20) with k20 | k20
      · refine lv_tableIn (off := 777) (tgt := 809) S.1 S.2.1 dL_law_32 (by rw [k20]; decide) (by rw [k20]; decide) (by rw [k20]; decide) (by decide) ?_
        obtain ⟨r, hx1, hm1, hR1⟩ := P_dare (ς := ς) (ε := ε) (δ := δ) (Λ := Λ) (dr := dr) (r0 := aR 0) hNN hR (xs (x3 + 1).toNatClampNeg) (xs (x3 + 2).toNatClampNeg) (xs (x3 + 3).toNatClampNeg)
        exact wLaw_20 (N := N) S hK hA hZ hX hbl hbA hi1 hi2 hi3 hi4 hx1 hm1 (fun H locs ls hW hl => cont aE aR μ ς τ ε γ Γ δ ρ σ Λ dr hR1 H locs ls hW hl) _ _ _ hW hl
      rcases Classical.em (y = 21) with k21 | k21
      · refine lv_tableIn (off := 820) (tgt := 852) S.1 S.2.1 dL_law_32 (by rw [k21]; decide) (by rw [k21]; decide) (by rw [k21]; decide) (by decide) ?_
        obtain ⟨r, δ', dr', σ', hx1, hm1, hR1⟩ := P_drawn (ς := ς) (ε := ε) (δ := δ) (Λ := Λ) (dr := dr) (r0 := aR 0) hNN hR (xs (x3 + 1).toNatClampNeg) (xs (x3 + 2).toNatClampNeg)
        exact wLaw_21 (N := N) S hK hA hZ hX hbl hbA hi1 hi2 hi3 hi4 hx1 hm1 (fun H locs ls hW hl => cont aE aR μ ς τ ε γ Γ δ' ρ σ' Λ dr' hR1 H locs ls hW hl) _ _ _ hW hl
      rcases Classical.em (y = 22) with k22 | k22
      · refine lv_tableIn (off := 853) (tgt := 885) S.1 S.2.1 dL_law_32 (by rw [k22]; decide) (by rw [k22]; decide) (by rw [k22]; decide) (by decide) ?_
        obtain ⟨r, δ', dr', σ', hx1, hm1, hR1⟩ := P_ten (ς := ς) (ε := ε) (δ := δ) (Λ := Λ) (dr := dr) (r0 := aR 0) hNN hR (xs (x3 + 1).toNatClampNeg) (xs (x3 + 2).toNatClampNeg)
        exact wLaw_22 (N := N) S hK hA hZ hX hbl hbA hi1 hi2 hi3 hi4 hx1 hm1 (fun H locs ls hW hl => cont aE aR μ ς τ ε γ Γ δ' ρ σ' Λ dr' hR1 H locs ls hW hl) _ _ _ hW hl
      rcases Classical.em (y = 23) with k23 | k23
      · refine lv_tableIn (off := 886) (tgt := 918) S.1 S.2.1 dL_law_32 (by rw [k23]; decide) (by rw [k23]; decide) (by rw [k23]; decide) (by decide) ?_
        obtain ⟨r, μ', σ', hx1, hm1, hR1⟩ := P_keep (ς := ς) (ε := ε) (δ := δ) (Λ := Λ) (dr := dr) (r0 := aR 0) hNN hR
        exact wLaw_23 (N := N) S hK hA hZ hX hbl hbA hi1 hi2 hi3 hi4 hx1 hm1 (fun H locs ls hW hl => cont aE aR μ' ς τ ε γ Γ δ ρ σ' Λ dr hR1 H locs ls hW hl) _ _ _ hW hl
      rcases Classical.em (y = 24) with k24 | k24
      · refine lv_tableIn (off := 899) (tgt := 931) S.1 S.2.1 dL_law_32 (by rw [k24]; decide) (by rw [k24]; decide) (by rw [k24]; decide) (by decide) ?_
        obtain ⟨r, μ', σ', hx1, hm1, hR1⟩ := P_back (ς := ς) (ε := ε) (δ := δ) (Λ := Λ) (dr := dr) (r0 := aR 0) hNN hR
        exact wLaw_24 (N := N) S hK hA hZ hX hbl hbA hi1 hi2 hi3 hi4 hx1 hm1 (fun H locs ls hW hl => cont aE aR μ' ς τ ε γ Γ δ ρ σ' Λ dr hR1 H locs ls hW hl) _ _ _ hW hl
      rcases Classical.em (y = 25) with k25 | k25
      · refine lv_tableIn (off := 912) (tgt := 944) S.1 S.2.1 dL_law_32 (by rw [k25]; decide) (by rw [k25]; decide) (by rw [k25]; decide) (by decide) ?_
        obtain ⟨r, hx1, hm1, hR1⟩ := P_count (ς := ς) (ε := ε) (δ := δ) (Λ := Λ) (dr := dr) (r0 := aR 0) hNN hR (xs (x3 + 1).toNatClampNeg)
        exact wLaw_25 (N := N) S hK hA hZ hX hbl hbA hi1 hi2 hi3 hi4 hx1 hm1 (fun H locs ls hW hl => cont aE aR μ ς τ ε γ Γ δ ρ σ Λ dr hR1 H locs ls hW hl) _ _ _ hW hl
      refine lv_tableOut (tgt := 967) S.1 S.2.1 dL_law_32 (by have z0 := lv_neT (a := 0) k0 (by decide); have z1 := lv_neT (a := 1) k1 (by decide); have z2 := lv_neT (a := 2) k2 (by decide); have z3 := lv_neT (a := 3) k3 (by decide); have z4 := lv_neT (a := 4) k4 (by decide); have z5 := lv_neT (a := 5) k5 (by decide); have z6 := lv_neT (a := 6) k6 (by decide); have z7 := lv_neT (a := 7) k7 (by decide); have z8 := lv_neT (a := 8) k8 (by decide); have z9 := lv_neT (a := 9) k9 (by decide); have z10 := lv_neT (a := 10) k10 (by decide); have z11 := lv_neT (a := 11) k11 (by decide); have z12 := lv_neT (a := 12) k12 (by decide); have z13 := lv_neT (a := 13) k13 (by decide); have z14 := lv_neT (a := 14) k14 (by decide); have z15 := lv_neT (a := 15) k15 (by decide); have z16 := lv_neT (a := 16) k16 (by decide); have z17 := lv_neT (a := 17) k17 (by decide); have z18 := lv_neT (a := 18) k18 (by decide); have z19 := lv_neT (a := 19) k19 (by decide); have z20 := lv_neT (a := 20) k20 (by decide); have z21 := lv_neT (a := 21) k21 (by decide); have z22 := lv_neT (a := 22) k22 (by decide); have z23 := lv_neT (a := 23) k23 (by decide); have z24 := lv_neT (a := 24) k24 (by decide); have z25 := lv_neT (a := 25) k25 (by decide); omega) (by decide) ?_
      exact cont aE aR μ ς τ ε γ Γ δ ρ σ Λ dr hR _ _ _ hW hl
theorem st_arr {args : Array Value} {s : State} {ty : FieldType} (h : (Cond.arrayClass ty).before args s = true) (ho : ∀ C, ty ≠ .object C) : ∃ cA, ArrOfT s cA ty ∧ va_RA s cA ty := by
  obtain ⟨cA, k, comp, h1, h2, h3⟩ := Cond.arrayClass_spec h
  refine ⟨cA, fun n z => ⟨fun k h => (by cases h), k, h2, comp, h3⟩, ?_⟩
  cases ty with
  | object C => exact absurd rfl (ho C)
  | _ => exact h1
theorem st_Zo {args : Array Value} {s : State} {C n : String} {N : Nat} {xs : Nat → Int32} {A : Nat → Prop} (hN : N < 2 ^ 31) (hl : (Cond.laysStatic C n "[I").before args s = true) (hini : (Cond.initialized C).before args s = true) (harr : (Cond.arrayOf (.static C n "[I") .int).before args s = true) (hlen : (Cond.eq (.length (.static C n "[I")) (.int (Int32.ofNat N))).before args s = true)
    (hel : ∀ j, j < N → (Cond.eq (.elem (.static C n "[I") (.int (Int32.ofNat j))) (.int (xs j))).before args s = true) (hA : ∀ a : Nat, a < s.heap.size → ¬ A a) : ∃ t, Zo C n N xs t A s s.heap := by
  obtain ⟨t, h1, h2⟩ := va_Tof (f := fun j => .int (xs j)) hN harr (va_eqt hlen) (fun j hj => va_eqt (hel j hj)) hA
  exact ⟨t, va_Zof hl hini h1 hA, h2⟩
set_option maxHeartbeats 8000000 in
set_option maxRecDepth 100000 in
theorem whole_start {p : Program} {e : Env} {s : State} {m : MethodId} {below : List Frame} {meth : Method} {c : Code} (l : Launch) (hflags : l.flags = flags0) {b L : Nat} {xs : Nat → Int32} (hL : L ≤ 2560) (C0 : lw_At p s m meth c b L xs) : W p l e room_1 s m #[Value.ref b] below meth c s.heap [] 0 0 (lw_Z below #[Value.ref b] s) (entryFrame m ([Value.ref b] : List Value).toArray 4) := by
  obtain ⟨hx, hb, hr, hml, hown, hts0, hX, hbl, hlocks, hgv⟩ := id C0
  obtain ⟨N, hNN⟩ : ∃ N : Nat, 5000 ≤ N := ⟨5000, Nat.le_refl _⟩
  have hts := gT_lw hts0
  have S : Fx p m c cL_law 4 s #[Value.ref b] RL := ⟨hx, hb, hml, hown, hts⟩
  have hA : ∀ x : Nat, s.heap.size ≤ x → (fun q : Nat => s.heap.size ≤ q) x := fun _ h => h
  have hA0 : ∀ a : Nat, a < s.heap.size → ¬ (fun q : Nat => s.heap.size ≤ q) a := fun a h => Nat.not_le.mpr h
  obtain ⟨c0, iS0, hKn0⟩ := u_known (C := RX0) (T := TX0) (N := 20) (n := 20) hts inDa (hts _ q143)
  obtain ⟨c1, iS1, hKn1⟩ := u_known (C := RX1) (T := TX1) (N := 5) (n := 5) hts inGa (hts _ q210)
  obtain ⟨c2, iS2, hKn2⟩ := u_known (C := RX3) (T := TX3) (N := 9) (n := 9) hts inRo (hts _ q92)
  obtain ⟨c3, iS3, hKn3⟩ := u_known (C := RX4) (T := TX4) (N := 3) (n := 3) hts inSc (hts _ q75)
  obtain ⟨c4, iS4, hKn4⟩ := u_known (C := RX5) (T := TX5) (N := 2) (n := 2) hts inTe (hts _ q61)
  obtain ⟨c5, iS5, hKn5⟩ := u_known (C := RX6) (T := TX6) (N := 12) (n := 12) hts inMa (hts _ q53)
  obtain ⟨c6, iS6, hKn6⟩ := u_known (C := RX7) (T := TX7) (N := 30) (n := 30) hts inMo (hts _ q666)
  obtain ⟨y0, y0a, y0b⟩ := st_arr (ty := .int) (hts _ q90) (fun _ h => by cases h)
  obtain ⟨y1, y1a, y1b⟩ := st_arr (ty := .byte) (hts _ q73) (fun _ h => by cases h)
  obtain ⟨y2, y2a, y2b⟩ := st_arr (ty := .boolean) (hts _ q770) (fun _ h => by cases h)
  obtain ⟨y3, y3a, y3b⟩ := st_arr (ty := .long) (hts _ q231) (fun _ h => by cases h)
  obtain ⟨cs, hcs0, hcs1, hcs2, hcs3⟩ : ∃ cs : Nat → ClassId, cs 0 = y0 ∧ cs 1 = y1 ∧ cs 2 = y2 ∧ cs 3 = y3 := ⟨fun k => match k with | 0 => y0 | 1 => y1 | 2 => y2 | _ => y3, rfl, rfl, rfl, rfl⟩
  obtain ⟨D, hD⟩ : ∃ D : va_G, ∀ (k : Nat) (q : vw_C), vwCl[k]? = some q → u_Kn s q.1 q.2.1 q.2.2 (D.1 k) (D.2 k) := by
    refine ⟨(fun k => match k with | 0 => c0 | 1 => c1 | 2 => c2 | 3 => c3 | 4 => c4 | 5 => c5 | _ => c6, fun k => match k with | 0 => iS0 | 1 => iS1 | 2 => iS2 | 3 => iS3 | 4 => iS4 | 5 => iS5 | _ => iS6), ?_⟩
    intro k q hq
    match k, hq with
    | 0, hq => cases hq; exact hKn0
    | 1, hq => cases hq; exact hKn1
    | 2, hq => cases hq; exact hKn2
    | 3, hq => cases hq; exact hKn3
    | 4, hq => cases hq; exact hKn4
    | 5, hq => cases hq; exact hKn5
    | 6, hq => cases hq; exact hKn6
    | k + 7, hq => simp [vwCl] at hq
  have hK : va_K D vwCl (tyL cs) s := by
    refine ⟨hD, fun k q hq => ?_⟩
    match k, hq with
    | 0, hq => cases hq; rw [hcs0]; exact ⟨y0a, y0b⟩
    | 1, hq => cases hq; rw [hcs1]; exact ⟨y1a, y1b⟩
    | 2, hq => cases hq; rw [hcs2]; exact ⟨y2a, y2b⟩
    | 3, hq => cases hq; rw [hcs3]; exact ⟨y3a, y3b⟩
    | k + 4, hq => simp at hq
  have hg := flat_of_before _ hgv
  obtain ⟨t0, hz0⟩ := st_Zo (C := "CoatsOnChairs$Scan") (n := "FIRST") (N := 7) (xs := zFirst) (A := (fun q : Nat => s.heap.size ≤ q)) (by decide) (hts0 _ (List.mem_of_getElem? (i := 318) rfl)) (hts _ q42) (hg _ (by decide +kernel)) (hg _ (by decide +kernel)) (fun j hj => hg _ (by
    have h9 : ∀ j, j < 7 → (Cond.eq (.elem (.static "CoatsOnChairs$Scan" "FIRST" "[I") (.int (Int32.ofNat j))) (.int (zFirst j))) ∈ flatC (Jvm.Cond.and given_1 narrow_1) := by decide +kernel
    exact h9 j hj)) hA0
  obtain ⟨t1, hz1⟩ := st_Zo (C := "CoatsOnChairs$Scan") (n := "LEAST") (N := 13) (xs := zLeast) (A := (fun q : Nat => s.heap.size ≤ q)) (by decide) (hts0 _ (List.mem_of_getElem? (i := 324) rfl)) (hts _ q42) (hg _ (by decide +kernel)) (hg _ (by decide +kernel)) (fun j hj => hg _ (by
    have h9 : ∀ j, j < 13 → (Cond.eq (.elem (.static "CoatsOnChairs$Scan" "LEAST" "[I") (.int (Int32.ofNat j))) (.int (zLeast j))) ∈ flatC (Jvm.Cond.and given_1 narrow_1) := by decide +kernel
    exact h9 j hj)) hA0
  obtain ⟨t2, hz2⟩ := st_Zo (C := "CoatsOnChairs$Scan") (n := "MOST") (N := 13) (xs := zMost) (A := (fun q : Nat => s.heap.size ≤ q)) (by decide) (hts0 _ (List.mem_of_getElem? (i := 326) rfl)) (hts _ q42) (hg _ (by decide +kernel)) (hg _ (by decide +kernel)) (fun j hj => hg _ (by
    have h9 : ∀ j, j < 13 → (Cond.eq (.elem (.static "CoatsOnChairs$Scan" "MOST" "[I") (.int (Int32.ofNat j))) (.int (zMost j))) ∈ flatC (Jvm.Cond.and given_1 narrow_1) := by decide +kernel
    exact h9 j hj)) hA0
  obtain ⟨t3, hz3⟩ := st_Zo (C := "CoatsOnChairs") (n := "FIRST_READER") (N := 7) (xs := zReader) (A := (fun q : Nat => s.heap.size ≤ q)) (by decide) (hts0 _ (List.mem_of_getElem? (i := 134) rfl)) (hts _ q40) (hg _ (by decide +kernel)) (hg _ (by decide +kernel)) (fun j hj => hg _ (by
    have h9 : ∀ j, j < 7 → (Cond.eq (.elem (.static "CoatsOnChairs" "FIRST_READER" "[I") (.int (Int32.ofNat j))) (.int (zReader j))) ∈ flatC (Jvm.Cond.and given_1 narrow_1) := by decide +kernel
    exact h9 j hj)) hA0
  have hZ : Zf (fun k => ([t0, t1, t2, t3] : List Nat).getD k 0) (fun q : Nat => s.heap.size ≤ q) s s.heap := ⟨hz0, hz1, hz2, hz3⟩
  generalize (fun k => ([t0, t1, t2, t3] : List Nat).getD k 0) = fs at hZ
  obtain ⟨μ, ς, τ, ε, γ, ρ, σ, hx1, hm1, hR⟩ := P_init hNN
  have hW : Wd D (fun q : Nat => s.heap.size ≤ q) s.heap [] s.heap [] := ⟨fun k q h => by simp at h, ⟨fun i j p q h => by simp at h, fun k q h => by simp at h⟩, va_S.rf⟩
  have hl := lv_entry ([.ref b]) (n := 4) (Nat.le_of_ble_eq_true rfl)
  rw [lg_entry_eq]
  generalize (lg_sl ([.ref b]) ++ List.replicate (4 - (lg_sl ([.ref b])).length) Slot.unset).toArray = ls at hl ⊢
  have hl : lv_has ls 4 [(0, .ref b)] := hl
  refine va_new (ci := 5) (fs := [.null, .null, .null, .null, .null, .null, .null, .null, .int 0, .int 0, .null, .null]) (C := RX6) (T := TX6) (N := 12) S.1 S.2.1 S.2.2.2.2 inMa tyX6 tyX6_ok S.2.2.2.1 (S.2.2.2.2 _ q52) (S.2.2.2.2 _ q53) (S.2.2.2.2 _ q40) hK hW.1 hW.2.1 hW.2.2 hA rfl (by decide +kernel) (Nat.le_of_ble_eq_true rfl) (Nat.le_of_ble_eq_true rfl) dL_law_0 (fun q0 H hP hD hS => ?_)
  have hW : Wd D (fun q : Nat => s.heap.size ≤ q) s.heap ([] ++ ([(q0, .inr (5, [.null, .null, .null, .null, .null, .null, .null, .null, .int 0, .int 0, .null, .null]))] ++ [])) H _ := ⟨hP, hD, hS⟩
  refine W.widen (k := 1) (n := 12) (by decide) (by decide) ?_
  refine lv_dup S.1 S.2.1 dL_law_3 rfl ?_
  refine kI_n (As := []) (rest := [.ref q0]) S hK hA (z := (some fs)) hZ [] [] hW (cMa_init l D cs fs q0 N hx1) lk_L_9 q55 rfl ⟨Nat.le_of_ble_eq_true rfl, Nat.le_of_ble_eq_true rfl⟩ rfl (Nat.le_of_ble_eq_true rfl) hl.1 dL_law_4 ⟨Nat.le_of_ble_eq_true rfl, Nat.le_of_ble_eq_true rfl⟩ (fun u1 H9 locs9 hu hW9 => ?_)
  obtain ⟨hu, -⟩ := hu
  subst hu
  have hW : Wd D (fun q : Nat => s.heap.size ≤ q) s.heap (wMa cs u1.1 ((u1.2 1) 0) ((u1.2 0) 0) ((u1.2 4) 0) ((u1.2 3) 0) ((u1.2 5) 0) ((u1.2 2) 0) μ ++ (wSc cs (u1.2 0) ((u1.2 1) 0) ς ++ (wTe cs (u1.2 1) τ ++ (wRo cs (u1.2 2) ε ++ (wGa cs (u1.2 3) ((u1.2 4) 0) ((u1.2 5) 0) γ (fun _ => (0 : Int64)) ++ (wDa cs (u1.2 4) (u1.2 5 0) z0 ++ (wRo cs (u1.2 5) ρ))))))) H9 locs9 := kw (by simp only [List.append_assoc, List.nil_append, List.append_nil]) hW9
  clear hW9
  generalize H9 = H at hW ⊢
  generalize locs9 = locs at hW ⊢
  refine W.widen (k := 26) (n := 1332) (by decide) (by decide) ?_
  refine lv_astore_n (lv' := [(1, .ref (u1.1 0)), (0, .ref b)]) S.1 S.2.1 dL_law_7 rfl hl (by decide) rfl (fun ls hl => ?_)
  refine va_new (ci := 6) (fs := [.int 0, .null, .int 0, .null, .null, .null, .null, .null, .int 0, .int 0, .null, .null, .null, .null, .null, .null, .null, .null, .null, .null, .int 0, .int 0, .int 0, .int 0, .null, .null, .null, .long 0, .long 0, .null]) (C := RX7) (T := TX7) (N := 30) S.1 S.2.1 S.2.2.2.2 inMo tyX7 tyX7_ok S.2.2.2.1 (S.2.2.2.2 _ q665) (S.2.2.2.2 _ q666) (S.2.2.2.2 _ q47) hK hW.1 hW.2.1 hW.2.2 hA rfl (by decide +kernel) (Nat.le_of_ble_eq_true rfl) (Nat.le_of_ble_eq_true rfl) dL_law_8 (fun q8 H hP hD hS => ?_)
  have hW : Wd D (fun q : Nat => s.heap.size ≤ q) s.heap ((wMa cs u1.1 ((u1.2 1) 0) ((u1.2 0) 0) ((u1.2 4) 0) ((u1.2 3) 0) ((u1.2 5) 0) ((u1.2 2) 0) μ ++ (wSc cs (u1.2 0) ((u1.2 1) 0) ς ++ (wTe cs (u1.2 1) τ ++ (wRo cs (u1.2 2) ε ++ (wGa cs (u1.2 3) ((u1.2 4) 0) ((u1.2 5) 0) γ (fun _ => (0 : Int64)) ++ (wDa cs (u1.2 4) (u1.2 5 0) z0 ++ (wRo cs (u1.2 5) ρ))))))) ++ ([(q8, .inr (6, [.int 0, .null, .int 0, .null, .null, .null, .null, .null, .int 0, .int 0, .null, .null, .null, .null, .null, .null, .null, .null, .null, .null, .int 0, .int 0, .int 0, .int 0, .null, .null, .null, .long 0, .long 0, .null]))] ++ [])) H _ := ⟨hP, hD, hS⟩
  refine W.widen (k := 27) (n := 1362) (by decide) (by decide) ?_
  refine lv_dup S.1 S.2.1 dL_law_11 rfl ?_
  refine kI_n (As := []) (rest := [.ref q8]) S hK hA (z := none) trivial (wMa cs u1.1 ((u1.2 1) 0) ((u1.2 0) 0) ((u1.2 4) 0) ((u1.2 3) 0) ((u1.2 5) 0) ((u1.2 2) 0) μ ++ (wSc cs (u1.2 0) ((u1.2 1) 0) ς ++ (wTe cs (u1.2 1) τ ++ (wRo cs (u1.2 2) ε ++ (wGa cs (u1.2 3) ((u1.2 4) 0) ((u1.2 5) 0) γ (fun _ => (0 : Int64)) ++ (wDa cs (u1.2 4) (u1.2 5 0) z0 ++ (wRo cs (u1.2 5) ρ))))))) [] hW (cMo_init l D cs q8 N hm1) lk_L_12 q668 rfl ⟨Nat.le_of_ble_eq_true rfl, Nat.le_of_ble_eq_true rfl⟩ rfl (Nat.le_of_ble_eq_true rfl) hl.1 dL_law_12 ⟨Nat.le_of_ble_eq_true rfl, Nat.le_of_ble_eq_true rfl⟩ (fun aM H9 locs9 hu hW9 => ?_)
  subst hu
  have hW : Wd D (fun q : Nat => s.heap.size ≤ q) s.heap ((wMa cs u1.1 ((u1.2 1) 0) ((u1.2 0) 0) ((u1.2 4) 0) ((u1.2 3) 0) ((u1.2 5) 0) ((u1.2 2) 0) μ ++ (wSc cs (u1.2 0) ((u1.2 1) 0) ς ++ (wTe cs (u1.2 1) τ ++ (wRo cs (u1.2 2) ε ++ (wGa cs (u1.2 3) ((u1.2 4) 0) ((u1.2 5) 0) γ (fun _ => (0 : Int64)) ++ (wDa cs (u1.2 4) (u1.2 5 0) z0 ++ (wRo cs (u1.2 5) ρ))))))) ++ (wMo cs aM σ (fun _ => (0 : Int64)))) H9 locs9 := kw (by simp only [List.append_assoc, List.nil_append, List.append_nil]) hW9
  clear hW9
  generalize H9 = H at hW ⊢
  generalize locs9 = locs at hW ⊢
  refine W.widen (k := 47) (n := 4456) (by decide) (by decide) ?_
  refine lv_astore_n (lv' := [(2, .ref (aM 0)), (1, .ref (u1.1 0)), (0, .ref b)]) S.1 S.2.1 dL_law_15 rfl hl (by decide) rfl (fun ls hl => ?_)
  refine lv_iconst (v := 0) S.1 S.2.1 dL_law_16 (by decide) ?_
  refine lv_istore_n (lv' := [(3, .int (0 : Int32)), (2, .ref (aM 0)), (1, .ref (u1.1 0)), (0, .ref b)]) S.1 S.2.1 dL_law_17 rfl hl (by decide) rfl (fun ls hl => ?_)
  exact law_loop (fs := fs) (a := u1.1) (aS := u1.2 0) (aT := u1.2 1) (aG := u1.2 3) (aD := u1.2 4) (aM := aM) hL hNN C0 hK hZ (L + 6) 0 0 (by omega) (by omega) rfl (u1.2 2) (u1.2 5) μ ς τ ε γ (fun _ => (0 : Int64)) z0 ρ σ (fun _ => (0 : Int64)) (u1.2 5 0) hR _ _ _ hW (lv_sub hl [3, 2, 1, 0] rfl)
set_option maxHeartbeats 4000000 in
theorem lw_walk (l : Launch) (hflags : l.flags = flags0) (b : Addr) (xs : List Int32) : MetFree l x (headSpec (Jvm.Cond.code x code maxLocals ret :: tables_1) room_1) (lw_P b xs) (fun _ _ _ _ _ => True) lw_Q := by
  refine MetFree.of_bodyS (code := code) (maxLocals := maxLocals) (ret := ret) (by decide) ?_ ?_
  · intro args s m h hn
    obtain ⟨meth, c, h1, h2, h3, h4, h5, h6, -, -⟩ := Cond.code_spec hn (atoms_spec (ws := Jvm.Cond.code x code maxLocals ret :: tables_1) h _ List.mem_cons_self)
    exact ⟨meth, c, h1, h2, h3, h4, h5, h6⟩
  · intro p e s m args below meth c s₁ B hml0 hP _
    obtain ⟨rfl, hx, hbd, hgv⟩ := hP
    obtain ⟨scr, harrAt, hlist, hof, hsmall⟩ := hx
    obtain ⟨hcb, hkn, -, -⟩ := State.arrayAt?_spec harrAt
    have hown : s.vm.findClass R_law = some m.cls := findClass_of_methodNamed B.named
    have hts0 : ∀ c ∈ (Jvm.Cond.code x code maxLocals ret :: tables_1), c.before #[Value.ref b] s = true := atoms_spec (ws := Jvm.Cond.code x code maxLocals ret :: tables_1) B.pre
    have hts : ∀ w ∈ lw_tbl, w.before #[Value.ref b] s = true := k2_hts_sels lw_privs (fun w hw => hts0 w (List.mem_cons_of_mem _ hw)) lw_privs_ok
    have hml : c.maxLocals = 4 := B.maxLocals_eq (hts0 _ List.mem_cons_self)
    have X₀ : Stand p l e room_1 s m #[Value.ref b] below meth c s₁ [] 0 0 := Stand.of_body B
    have hh0 : s₁.heap = s.heap := by rw [B.state]; rfl
    have hsz : scr.slots.size = xs.length := by rw [← Array.length_toList, hlist, List.length_map]
    have hval : ∀ j : Nat, j < xs.length → scr.slots[j]? = some (.int (xs.getD j 0)) := fun j hj => by
      rw [← Array.getElem?_toList, hlist]
      simp [hj]
    have hbl : b < s.heap.size := (Array.getElem?_eq_some_iff.mp hcb).1
    have hX : va_X b xs.length (fun j => xs.getD j 0) s s.heap := ⟨scr, hcb, hof, hkn, hsz, hval⟩
    have K : W p l e room_1 s m #[Value.ref b] below meth c s₁.heap [] 0 0 (lw_Z below #[Value.ref b] s) (entryFrame m ([Value.ref b] : List Value).toArray 4) := by
      rw [hh0]
      exact whole_start l hflags hbd ⟨B.exec, B.bytes, B.returns, hml, hown, hts, hX, hbl, B.notSynchronized, hgv⟩
    obtain ⟨t, a1, o, b1, b2, b3⟩ := K s₁ rfl X₀
    exact ⟨t, o, a1, b1, b2, b3⟩
theorem lw_pre_spec {args : Array Value} {s : State} (h : (Jvm.Cond.and given_1 narrow_1).before args s = true) (hr : rest_1_c.before args s = true) : ∃ (b : Addr) (xs : List Int32), lw_P b xs args s := by
  have hs := flat_of_before _ h
  have hq := flat_of_before _ hr
  have hc : (Cond.count 1).before args s = true := hs _ (by decide +kernel)
  have harr : (Cond.arrayOf (.arg 0) .int).before args s = true := hs _ (by decide +kernel)
  have hle : (Cond.le (.length (.arg 0)) (.int 2560)).before args s = true := hs _ (by decide +kernel)
  have hlen : (Cond.isInt (.length (.arg 0))).before args s = true := hq _ (by decide +kernel)
  have hall : (Cond.all (.arg 0) (.isInt (.elem (.arg 0) (.index 0)))).before args s = true := hq _ (by decide +kernel)
  obtain ⟨b, xs, hb, hx⟩ := State.ints_of_pre rfl harr hlen hall
  have hsm : xs.length < 2 ^ 31 := hx.choose_spec.2.2.2
  have hev : (Term.length (.arg 0)).eval args s none [] s = some (.int xs.length.toInt32) := hx.length_eval hb
  have hv := Cond.le_ints hev (show (Term.int 2560).eval args s none [] s = some (.int 2560) from rfl)
  have hd : xs.length.toInt32 ≤ 2560 := by
    simpa [Cond.before, Cond.holds, hv] using hle
  have hN : xs.length ≤ 2560 := (Int32.ofNat_le_ofNat hsm (by decide)).mp (show Int32.ofNat xs.length ≤ Int32.ofNat 2560 from hd)
  exact ⟨b, xs, Cond.one_arg hc (show args[0]? = some (.ref b) from hb), hx, hN, h⟩
theorem lw_comes (l : Launch) (hflags : l.flags = flags0) : Comes l x (Jvm.Cond.code x code maxLocals ret :: tables_1) room_1 (fun tb e args s => Calls_1 tb e args s ∧ rest_1 tb e args s ∧ Pre_1 tb e args s)
    (fun _ _ args s o t => lw_Q args s o t) := by
  intro p e ha hc hk s m args below hf hfit hheap happ hpre
  obtain ⟨b, xs, hP⟩ := lw_pre_spec hpre.2.2 hpre.2.1
  obtain ⟨k, o, h1, h2, h3, hQ⟩ := lw_walk l hflags b xs p e ha hc hk s m args below hf ((Spec.applies_iff_loose hf).mp happ).1 hP trivial
  exact ⟨k, o, h1, h2, h3, hQ⟩
theorem lw_frame {s t : State} {o : Outcome} {args : Array Value} (h : Framed s o t [] 47 4456) :
    Framed s o t (fieldLocs frame_1_writes args s ++ arrayLocs frame_1_arrays args s ++ staticLocs frame_1_statics s) 47 4456 := h
theorem lw_limb (L : Cond) (hL : ∀ (args : Array Value) (s t : State), L.after args s (.returned (some (.int 1))) t = true) :
    ArmFor flags0 classFile x code maxLocals ret World_1 tables_1 room_1 Calls_1 rest_1 Pre_1
      (fun tb e a s o t => postC L tb e a s o t ∧ Framed s o t (fieldLocs frame_1_writes a s ++ arrayLocs frame_1_arrays a s ++ staticLocs frame_1_statics s) 47 4456) := by
  intro l hflags _ _ p e ha hc hk s m args below hf hfit hheap happ hpre
  obtain ⟨k, o, h1, h2, h3, rfl, hF⟩ := lw_comes l hflags p e ha hc hk s m args below hf hfit hheap happ hpre
  exact ⟨k, _, h1, h2, h3, hL args s _, lw_frame hF⟩
theorem i_vc : Claimed_1_1 ∧ Claimed_1_2 := ⟨lw_limb limb_1_1 (fun args s t => by simp [limb_1_1, Cond.after, Cond.holds, Cond.value]), lw_limb limb_1_2 (fun args s t => Cond.after_iff.mpr (by
  first | (rw [show limb_1_2 = Cond.eq .result (.int 1) from rfl, Cond.eq_ints (x := 1) (y := 1) rfl rfl]; simp; done) | (simp [limb_1_2, Cond.value, Term.eval]; done)))⟩
