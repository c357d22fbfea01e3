/-! constructors: cells come -/
def z0 : St := fun _ _ => 0
def Kn {S0 : Type} (l : Launch) (D : va_G) (cs : Nat → ClassId) (z : Option (Nat → Nat)) (y : MethodName) (b : ByteArray) (n : Nat) (fr lo mc ms : Nat) (w : va_W) (av : List Value) (P : S0 → Prop) (w' : S0 → va_W) : Prop :=
  ∀ sz, Met l y (.code y b n none :: gT) { frames := fr, cells := mc, slots := ms, locals := lo } (va_Pc av (Kp D cs z w sz)) (va_Qv (fun (u : S0) => P u) (fun u t => Kq D cs (w' u) (va_A w sz) () t) (va_A w sz)) mc ms (va_A w sz)
section KN
variable {p : Program} {l : Launch} {e : Env} {R : Room} {s : State} {m : MethodId} {args : Array Value} {below : List Frame} {meth : Method} {c : Code} {H : Heap} {locs : List Loc} {cells slots : Nat} {Q : State → Prop}
variable {cc : ByteArray} {pc nL : Nat} {ls : Array Slot} {rest st0 : List Value} {D : va_G} {cs : Nat → ClassId} {A : Nat → Prop} {own : String} {z : Option (Nat → Nat)} {ws mid : va_W} {y : MethodName} {b : ByteArray} {n fr lo mc ms idx a0 : Nat} {As : List Value}
theorem k_cbn {rt : Option FieldType} {k : Nat} (S : Fx p m c cc nL s args own) (L : Lk own idx y b n rt k) (hR : fr + 1 ≤ R.frames ∧ 8 + (n + 11) + lo ≤ R.locals) : CallB R s args own idx y b n rt (.code y b n rt :: gT) { frames := fr, cells := mc, slots := ms, locals := lo } mc ms k :=
  callB_of k S.2.2.2.2 (gT_good (fun _ h => h) L.1.2.2) rfl rfl rfl (S.2.2.2.2 _ L.1.2.1) (S.2.2.2.2 _ L.1.1) L.2 hR
theorem kI_n {S0 : Type} {P : S0 → Prop} {mid' : S0 → va_W} (S : Fx p m c cc nL s args own) (hK : va_K D vwCl (tyL cs) s) (hA : ∀ x, s.heap.size ≤ x → A x) (hz : Gf z A s) (pre post : va_W) (hW : Wd D A s.heap (pre ++ (mid ++ post)) H locs) (hM : Kn l D cs z y b n fr lo mc ms mid (.ref a0 :: As) P mid')
    (L : Lk own idx y b n none As.length) (hi : Cond.instanceMethod y ∈ gT) (hy : y.name = "<init>") (hR : fr + 1 ≤ R.frames ∧ 8 + (n + 11) + lo ≤ R.locals) (hst : st0 = As.reverse ++ .ref a0 :: rest) (hcat : (rest.map fun v => v.category).sum ≤ 8) (hsz : ls.size = nL) (hdg : decode cc pc = .ok (.invokespecial idx, 3)) (hf : cells + mc ≤ R.cells ∧ slots + ms ≤ R.slots)
    (kk : ∀ (u : S0) (H : Heap) (locs : List Loc), P u → Wd D A s.heap (pre ++ (mid' u ++ post)) H locs → W p l e R s m args below meth c H locs (cells + mc) (slots + ms) Q (F0 m (pc + 3) ls rest)) : W p l e R s m args below meth c H locs cells slots Q (F0 m pc ls st0) := by
  obtain ⟨hPc, hDc, hF, hU⟩ := k_pre hK hA hz hW
  refine va_callv (va_runI (As := As) (rest := rest) S (hM H.size) ⟨k_cbn S L hR, hy, S.2.2.2.2 _ hi⟩ ⟨Kp.blind, fun U h1 h2 => ⟨rfl, hU U h1 h2⟩⟩ rfl rfl hsz hst (lv_room (m := m) (pc := pc) (ls := ls) (rest := st0) hcat) hdg hf) hW.2.2 (fun x _ h => hF x h) hF (fun u t H1 locs1 ht hvm hw hB hz1 hk1 hS => ?_)
  exact kk u H1 locs1 hw (k_post hW hF ht hB hk1 hS)
theorem k_cA {k : Nat} {ty : FieldType} {cA c0 : ClassId} (hK : va_K D vwCl (tyL cs) s) (hk : (tyL cs)[k]? = some (c0, ty)) (hn : ∀ C, ty ≠ .object C) (h : va_RA s cA ty) : cA = c0 := by
  have h2 := (hK.2 k _ hk).2
  cases ty with
  | object C => exact absurd rfl (hn C)
  | _ => exact Option.some.inj (h.symm.trans h2)
theorem k_newI {n : Int32} {N : Nat} (S : Fx p m c cc nL s args own) (harr : Cond.arrayClass .int ∈ gT) (hK : va_K D vwCl (tyL cs) s) (hA : ∀ x, s.heap.size ≤ x → A x) (hW : Wd D A s.heap ws H locs) (hn : ¬ n < 0) (hN : n.toNatClampNeg = N) (hb : N * 4 ≤ 536870912) (hc : cells + 1 ≤ R.cells) (hs : slots + N ≤ R.slots) (hdg : decode cc pc = .ok (.newarray .int, 2))
    (kk : ∀ (q : Nat) (H : Heap), Wd D A s.heap (ws ++ [(q, .inl (cs 0, N, .inl (fun _ => 0)))]) H locs → W p l e R s m args below meth c H locs (cells + 1) (slots + N) Q (F0 m (pc + 2) ls (.ref q :: rest))) : W p l e R s m args below meth c H locs cells slots Q (F0 m pc ls (.int n :: rest)) := by
  refine va_newa (atype := .int) (ty := .int) (a0 := (N, .inl (fun _ => 0))) S.1 S.2.1 (S.2.2.2.2 _ harr) rfl hK hW.1 hW.2.1 hW.2.2 hA (fun _ => rfl) hn hN hb hc hs hdg (fun q cA H1 hK1 hP hD hS => ?_)
  have e := k_cA hK (k := 0) rfl (fun _ h => by cases h) (hK1.2 4 _ rfl).2
  subst e
  exact kk q H1 ⟨hP, hD, hS⟩
theorem k_newB {n : Int32} {N : Nat} (S : Fx p m c cc nL s args own) (harr : Cond.arrayClass .byte ∈ gT) (hK : va_K D vwCl (tyL cs) s) (hA : ∀ x, s.heap.size ≤ x → A x) (hW : Wd D A s.heap ws H locs) (hn : ¬ n < 0) (hN : n.toNatClampNeg = N) (hb : N * 1 ≤ 536870912) (hc : cells + 1 ≤ R.cells) (hs : slots + N ≤ R.slots) (hdg : decode cc pc = .ok (.newarray .byte, 2))
    (kk : ∀ (q : Nat) (H : Heap), Wd D A s.heap (ws ++ [(q, .inl (cs 1, N, .inl (fun _ => 0)))]) H locs → W p l e R s m args below meth c H locs (cells + 1) (slots + N) Q (F0 m (pc + 2) ls (.ref q :: rest))) : W p l e R s m args below meth c H locs cells slots Q (F0 m pc ls (.int n :: rest)) := by
  refine va_newa (atype := .byte) (ty := .byte) (a0 := (N, .inl (fun _ => 0))) S.1 S.2.1 (S.2.2.2.2 _ harr) rfl hK hW.1 hW.2.1 hW.2.2 hA (fun _ => rfl) hn hN hb hc hs hdg (fun q cA H1 hK1 hP hD hS => ?_)
  have e := k_cA hK (k := 1) rfl (fun _ h => by cases h) (hK1.2 4 _ rfl).2
  subst e
  exact kk q H1 ⟨hP, hD, hS⟩
theorem k_newZ {n : Int32} {N : Nat} (S : Fx p m c cc nL s args own) (harr : Cond.arrayClass .boolean ∈ gT) (hK : va_K D vwCl (tyL cs) s) (hA : ∀ x, s.heap.size ≤ x → A x) (hW : Wd D A s.heap ws H locs) (hn : ¬ n < 0) (hN : n.toNatClampNeg = N) (hb : N * 1 ≤ 536870912) (hc : cells + 1 ≤ R.cells) (hs : slots + N ≤ R.slots) (hdg : decode cc pc = .ok (.newarray .boolean, 2))
    (kk : ∀ (q : Nat) (H : Heap), Wd D A s.heap (ws ++ [(q, .inl (cs 2, N, .inl (fun _ => 0)))]) H locs → W p l e R s m args below meth c H locs (cells + 1) (slots + N) Q (F0 m (pc + 2) ls (.ref q :: rest))) : W p l e R s m args below meth c H locs cells slots Q (F0 m pc ls (.int n :: rest)) := by
  refine va_newa (atype := .boolean) (ty := .boolean) (a0 := (N, .inl (fun _ => 0))) S.1 S.2.1 (S.2.2.2.2 _ harr) rfl hK hW.1 hW.2.1 hW.2.2 hA (fun _ => rfl) hn hN hb hc hs hdg (fun q cA H1 hK1 hP hD hS => ?_)
  have e := k_cA hK (k := 2) rfl (fun _ h => by cases h) (hK1.2 4 _ rfl).2
  subst e
  exact kk q H1 ⟨hP, hD, hS⟩
theorem k_newJ {n : Int32} {N : Nat} (S : Fx p m c cc nL s args own) (harr : Cond.arrayClass .long ∈ gT) (hK : va_K D vwCl (tyL cs) s) (hA : ∀ x, s.heap.size ≤ x → A x) (hW : Wd D A s.heap ws H locs) (hn : ¬ n < 0) (hN : n.toNatClampNeg = N) (hb : N * 8 ≤ 536870912) (hc : cells + 1 ≤ R.cells) (hs : slots + N ≤ R.slots) (hdg : decode cc pc = .ok (.newarray .long, 2))
    (kk : ∀ (q : Nat) (H : Heap), Wd D A s.heap (ws ++ [(q, .inl (cs 3, N, .inr (.inl (fun _ => 0))))]) H locs → W p l e R s m args below meth c H locs (cells + 1) (slots + N) Q (F0 m (pc + 2) ls (.ref q :: rest))) : W p l e R s m args below meth c H locs cells slots Q (F0 m pc ls (.int n :: rest)) := by
  refine va_newa (atype := .long) (ty := .long) (a0 := (N, .inr (.inl (fun _ => 0)))) S.1 S.2.1 (S.2.2.2.2 _ harr) rfl hK hW.1 hW.2.1 hW.2.2 hA (fun _ => rfl) hn hN hb hc hs hdg (fun q cA H1 hK1 hP hD hS => ?_)
  have e := k_cA hK (k := 3) rfl (fun _ h => by cases h) (hK1.2 4 _ rfl).2
  subst e
  exact kk q H1 ⟨hP, hD, hS⟩
end KN
theorem Kn_of {S0 : Type} {P : S0 → Prop} {w' : S0 → va_W} {l : Launch} {D : va_G} {cs : Nat → ClassId} {z : Option (Nat → Nat)} {y : MethodName} {b : ByteArray} {n fr lo mc ms : Nat} {w : va_W} {av : List Value} (hy : plainName y.cls = true) (hyn : y.name = "<init>") (hn : (lg_sl av).length ≤ n)
    (body : ∀ (p : Program) (e : Env) (s : State) (m : MethodId) (below : List Frame) (meth : Method) (c : Code) (A : Nat → Prop), Fx p m c b n s av.toArray y.cls → meth.name = "<init>" → va_K D vwCl (tyL cs) s → (∀ x, s.heap.size ≤ x → A x) → Gf z A s → ∀ (Q : State → Prop),
      (∀ (u : S0), P u → ∀ (H : Heap) (locs : List Loc) (pc : Nat) (ls : Array Slot), decode b pc = .ok (.return_, 1) → Wd D A s.heap (w' u) H locs → W p l e { frames := fr, cells := mc, slots := ms, locals := lo } s m av.toArray below meth c H locs mc ms Q (F0 m pc ls [])) →
      ∀ (ls : Array Slot), lv_has ls n (lv_args 0 av) → Wd D A s.heap w s.heap [] → W p l e { frames := fr, cells := mc, slots := ms, locals := lo } s m av.toArray below meth c s.heap [] 0 0 Q (F0 m 0 ls [])) : Kn l D cs z y b n fr lo mc ms w av P w' := by
  intro sz
  refine Met.ofW (cc := b) (maxL := n) (ret := none) hy rfl ?_
  intro p e s m args below meth c s₁ B hml hv
  obtain ⟨rfl, hsz, hP, hK, hD0, hG⟩ := hv
  have hts := atoms_spec (ws := .code y b n none :: gT) B.pre
  have hown : s.vm.findClass y.cls = some m.cls := findClass_of_methodNamed B.named
  have hin : meth.name = y.name := (name_of_methodNamed B.named B.method).1
  subst hsz
  have S : Fx p m c b n s av.toArray y.cls := ⟨B.exec, B.bytes, hml, hown, fun w hw => hts w (List.mem_cons_of_mem _ hw)⟩
  have hr := B.returns
  have hlocks := B.notSynchronized
  have hl := lv_entry av hn
  rw [lg_entry_eq]
  refine body p e s m below meth c (va_A w s.heap.size) S (hin.trans hyn) hK (fun q h => Or.inr h) hG _ (fun u hu H locs pc ls hd hW => ?_) _ hl ⟨hP, hD0.self, va_S.rf⟩
  exact W.vret S.1 S.2.1 hr (fun t ht hWm => ⟨⟨u, rfl, hu, by rw [ht]; exact hW.1, va_K.moved hWm.alike hK, hW.2.1⟩, hW.2.2.F ht⟩) hW.2.2.2.2 hd
