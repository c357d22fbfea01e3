/-! states and worlds: own words -/
abbrev St : Type := Nat → Nat → Int32
def sA (σ : St) (k : Nat) (f : Nat → Int32) : St := fun j => if j = k then f else σ j
abbrev tyL (cs : Nat → ClassId) : List (ClassId × FieldType) := [(cs 0, .int), (cs 1, .byte), (cs 2, .boolean), (cs 3, .long)]
def Wd (D : va_G) (A : Nat → Prop) (H0 : Heap) (w : va_W) (H : Heap) (locs : List Loc) : Prop := va_P D vwCl w H ∧ va_D A w ∧ va_S A H0 H locs
abbrev Fx (p : Program) (m : MethodId) (c : Code) (cc : ByteArray) (nL : Nat) (s : State) (args : Array Value) (own : String) : Prop := CallFix p m c cc nL s args gT own
/-! what a call asks and gives, in pure words -/
def inb (i : Int32) (n : Nat) : Bool := !(decide (i < 0)) && decide (i.toNatClampNeg < n)
theorem inb_in {i : Int32} {n : Nat} (h : inb i n = true) : vp_in i n := by
  simp only [inb, Bool.and_eq_true, Bool.not_eq_true', decide_eq_false_iff_not, decide_eq_true_eq] at h
  intro q
  rcases q with q | q
  · exact h.1 q
  · exact absurd h.2 (Nat.not_lt.mpr q)
def gI {α : Type} (i : Int32) (n : Nat) (k : Option α) : Option α := match inb i n with
  | true => k
  | false => none
theorem gI_some {α : Type} {i : Int32} {n : Nat} {k : Option α} {r : α} (h : gI i n k = some r) : vp_in i n ∧ k = some r := by
  unfold gI at h
  cases hi : inb i n with
  | true => rw [hi] at h; exact ⟨inb_in hi, h⟩
  | false => rw [hi] at h; cases h
def gZ {α : Type} (y : Int32) (k : Option α) : Option α := if y = 0 then none else k
theorem gZ_some {α : Type} {y : Int32} {k : Option α} {r : α} (h : gZ y k = some r) : ¬ y = 0 ∧ k = some r := by
  unfold gZ at h
  by_cases hy : y = 0
  · rw [if_pos hy] at h; cases h
  · rw [if_neg hy] at h; exact ⟨hy, h⟩
def gZL {α : Type} (y : Int64) (k : Option α) : Option α := if y = 0 then none else k
theorem gZL_some {α : Type} {y : Int64} {k : Option α} {r : α} (h : gZL y k = some r) : ¬ y = 0 ∧ k = some r := by
  unfold gZL at h
  by_cases hy : y = 0
  · rw [if_pos hy] at h; cases h
  · rw [if_neg hy] at h; exact ⟨hy, h⟩
def cl1 {α γ : Type} (o : Option α) (k : α → Option γ) : Option γ := match o with
  | none => none
  | some a => k a
def cl2 {α β γ : Type} (o : Option (α × β)) (k : α → β → Option γ) : Option γ := match o with
  | none => none
  | some (a, b) => k a b
def cl3 {α β δ γ : Type} (o : Option (α × β × δ)) (k : α → β → δ → Option γ) : Option γ := match o with
  | none => none
  | some (a, b, d) => k a b d
def cl4 {α β δ ε γ : Type} (o : Option (α × β × δ × ε)) (k : α → β → δ → ε → Option γ) : Option γ := match o with
  | none => none
  | some (a, b, d, e) => k a b d e
theorem cl1_some {α γ : Type} {o : Option α} {k : α → Option γ} {r : γ} (h : cl1 o k = some r) : ∃ a, o = some a ∧ k a = some r := by
  cases o with
  | none => cases h
  | some a => exact ⟨a, rfl, h⟩
theorem cl2_some {α β γ : Type} {o : Option (α × β)} {k : α → β → Option γ} {r : γ} (h : cl2 o k = some r) : ∃ a b, o = some (a, b) ∧ k a b = some r := by
  cases o with
  | none => cases h
  | some a => obtain ⟨a, b⟩ := a; exact ⟨a, b, rfl, h⟩
theorem cl3_some {α β δ γ : Type} {o : Option (α × β × δ)} {k : α → β → δ → Option γ} {r : γ} (h : cl3 o k = some r) : ∃ a b d, o = some (a, b, d) ∧ k a b d = some r := by
  cases o with
  | none => cases h
  | some a => obtain ⟨a, b, d⟩ := a; exact ⟨a, b, d, rfl, h⟩
theorem cl4_some {α β δ ε γ : Type} {o : Option (α × β × δ × ε)} {k : α → β → δ → ε → Option γ} {r : γ} (h : cl4 o k = some r) : ∃ a b d e, o = some (a, b, d, e) ∧ k a b d e = some r := by
  cases o with
  | none => cases h
  | some a => obtain ⟨a, b, d, e⟩ := a; exact ⟨a, b, d, e, rfl, h⟩
theorem ite_t {α : Sort _} {q : Prop} [Decidable q] {a b r : α} (c : q) (h : (if q then a else b) = r) : a = r := by rw [if_pos c] at h; exact h
theorem ite_f {α : Sort _} {q : Prop} [Decidable q] {a b r : α} (c : ¬ q) (h : (if q then a else b) = r) : b = r := by rw [if_neg c] at h; exact h
theorem pr1 {α : Type} {a b : α} (h : some a = some b) : a = b := Option.some.inj h
theorem pr2 {α β : Type} {a c : α} {b d : β} (h : some (a, b) = some (c, d)) : a = c ∧ b = d := by cases h; exact ⟨rfl, rfl⟩
theorem pr3 {α β γ : Type} {a c : α} {b d : β} {e f : γ} (h : some (a, b, e) = some (c, d, f)) : a = c ∧ b = d ∧ e = f := by cases h; exact ⟨rfl, rfl, rfl⟩
theorem pr4 {α β γ δ : Type} {a c : α} {b d : β} {e f : γ} {g i : δ} (h : some (a, b, e, g) = some (c, d, f, i)) : a = c ∧ b = d ∧ e = f ∧ g = i := by cases h; exact ⟨rfl, rfl, rfl, rfl⟩
/-! a part of a world, and what comes back in its place -/
theorem vaP_mem {D : va_G} {cl : List vw_C} {ws : va_W} {H : Heap} : va_P D cl ws H ↔ ∀ q ∈ ws, va_at D cl q H :=
  ⟨fun h q hq => by obtain ⟨k, hk⟩ := List.getElem?_of_mem hq; exact h k q hk, fun h k q hk => h q (List.mem_of_getElem? hk)⟩
theorem vaD_in {A : Nat → Prop} {ws : va_W} (h : va_D A ws) {q : Nat × va_E} (hq : q ∈ ws) : A q.1 := by
  obtain ⟨k, hk⟩ := List.getElem?_of_mem hq
  exact h.2 k q hk
theorem vaA_mem {ws : va_W} {sz q : Nat} (h : va_A ws sz q) : (∃ e, (q, e) ∈ ws) ∨ sz ≤ q := by
  rcases h with ⟨k, e, h⟩ | h
  · exact Or.inl ⟨e, List.mem_of_getElem? h⟩
  · exact Or.inr h
theorem vaD_split {A : Nat → Prop} {w1 w2 : va_W} (h : va_D A (w1 ++ w2)) : va_D A w1 ∧ va_D A w2 ∧ ∀ p ∈ w1, ∀ q ∈ w2, p.1 ≠ q.1 := by
  have e1 : ∀ (k : Nat) (q : Nat × va_E), w1[k]? = some q → (w1 ++ w2)[k]? = some q := fun k q hk => by
    rw [List.getElem?_append_left (List.getElem?_eq_some_iff.mp hk).1]; exact hk
  have e2 : ∀ (k : Nat) (q : Nat × va_E), w2[k]? = some q → (w1 ++ w2)[w1.length + k]? = some q := fun k q hk => by
    rw [List.getElem?_append_right (by omega), show w1.length + k - w1.length = k by omega]; exact hk
  refine ⟨⟨fun i j p q hi hj he => h.1 i j p q (e1 i p hi) (e1 j q hj) he, fun k q hk => h.2 k q (e1 k q hk)⟩, ⟨fun i j p q hi hj he => ?_, fun k q hk => h.2 _ q (e2 k q hk)⟩, fun p hp q hq he => ?_⟩
  · have := h.1 _ _ p q (e2 i p hi) (e2 j q hj) he
    omega
  · obtain ⟨i, hi⟩ := List.getElem?_of_mem hp
    obtain ⟨j, hj⟩ := List.getElem?_of_mem hq
    have h1 := h.1 _ _ p q (e1 i p hi) (e2 j q hj) he
    have hl := (List.getElem?_eq_some_iff.mp hi).1
    omega
theorem vaD_app {A : Nat → Prop} {w1 w2 : va_W} (h1 : va_D A w1) (h2 : va_D A w2) (hx : ∀ p ∈ w1, ∀ q ∈ w2, p.1 ≠ q.1) : va_D A (w1 ++ w2) :=
  va_D.app h1 h2 (fun i j p q hi hj => hx p (List.mem_of_getElem? hi) q (List.mem_of_getElem? hj))
theorem k_mid {A : Nat → Prop} {D : va_G} {cl : List vw_C} {pre mid mid' post : va_W} {H H1 : Heap} (hP : va_P D cl (pre ++ (mid ++ post)) H) (hD : va_D A (pre ++ (mid ++ post)))
    (hk : ∀ q : Nat, q < H.size → ¬ va_A mid H.size q → H1[q]? = H[q]?) (hF : ∀ q, va_A mid H.size q → A q) (hP1 : va_P D cl mid' H1) (hD1 : va_D (va_A mid H.size) mid') :
    va_P D cl (pre ++ (mid' ++ post)) H1 ∧ va_D A (pre ++ (mid' ++ post)) := by
  obtain ⟨d1, d2, x1⟩ := vaD_split hD
  obtain ⟨d3, d4, x2⟩ := vaD_split d2
  have hm := vaP_mem.mp hP
  have hm1 := vaP_mem.mp hP1
  have out : ∀ p : Nat × va_E, va_at D cl p H → (∀ q ∈ mid, p.1 ≠ q.1) → ¬ va_A mid H.size p.1 := by
    intro p hp hne h
    rcases vaA_mem h with ⟨e, he⟩ | h
    · exact hne _ he rfl
    · exact absurd hp.lt (Nat.not_lt.mpr h)
  have opre : ∀ p ∈ pre, ¬ va_A mid H.size p.1 := fun p hp => out p (hm p (List.mem_append_left _ hp)) (fun q hq => x1 p hp q (List.mem_append_left _ hq))
  have opost : ∀ p ∈ post, ¬ va_A mid H.size p.1 := fun p hp => out p (hm p (List.mem_append_right _ (List.mem_append_right _ hp))) (fun q hq => (x2 q hq p hp).symm)
  refine ⟨vaP_mem.mpr fun q hq => ?_, vaD_app d1 (vaD_app (hD1.weaken (fun _ q _ h => hF q.1 h)) d4 ?_) ?_⟩
  · rcases List.mem_append.mp hq with h | h
    · exact (hm q (List.mem_append_left _ h)).kept (hk _ (hm q (List.mem_append_left _ h)).lt (opre q h))
    · rcases List.mem_append.mp h with h | h
      · exact hm1 q h
      · have h9 := hm q (List.mem_append_right _ (List.mem_append_right _ h))
        exact h9.kept (hk _ h9.lt (opost q h))
  · intro p hp q hq he
    exact opost q hq (he ▸ vaD_in hD1 hp)
  · intro p hp q hq he
    rcases List.mem_append.mp hq with h | h
    · exact opre p hp (he ▸ vaD_in hD1 h)
    · exact x1 p hp q (List.mem_append_right _ h) he
theorem k_cut {A : Nat → Prop} {D : va_G} {cl : List vw_C} {pre mid post : va_W} {H : Heap} (hP : va_P D cl (pre ++ (mid ++ post)) H) (hD : va_D A (pre ++ (mid ++ post))) : va_P D cl mid H ∧ va_D A mid :=
  ⟨vaP_mem.mpr fun q hq => vaP_mem.mp hP q (List.mem_append_right _ (List.mem_append_left _ hq)), (vaD_split (vaD_split hD).2.1).1⟩
theorem k_free {A : Nat → Prop} {w : va_W} {H0 H : Heap} (hD : va_D A w) (hz : H0.size ≤ H.size) (hA : ∀ q, H0.size ≤ q → A q) : ∀ q, va_A w H.size q → A q := by
  intro q h
  rcases vaA_mem h with ⟨e, he⟩ | h
  · exact vaD_in hD he
  · exact hA q (Nat.le_trans hz h)
/-! the static rows that the class reads: FIRST, LEAST, MOST, FIRST_READER -/
def zFirst : Nat → Int32 := fun k => [0, 1, 8, 10, 11, 12, 13].getD k 0
def zLeast : Nat → Int32 := fun k => [0, 0, 1, 1, 1, 0, 0, 0, 1, 1, 1, 0, 0].getD k 0
def zMost : Nat → Int32 := fun k => [3, 199, 199, 199, 99, 3, 9, 9, 99, 99, 99, 99, 30].getD k 0
def zReader : Nat → Int32 := fun k => [0, 60, 30, 10, 0, 5, 5].getD k 0
def Zo (C n : String) (L : Nat) (xs : Nat → Int32) (q : Nat) (A : Nat → Prop) (U : State) (H : Heap) : Prop := va_Z C n "[I" (.ref q) A U H ∧ va_T .int q L (fun j => .int (xs j)) A U H
def Zf (fs : Nat → Nat) (A : Nat → Prop) (U : State) (H : Heap) : Prop := Zo "CoatsOnChairs$Scan" "FIRST" 7 zFirst (fs 0) A U H ∧ Zo "CoatsOnChairs$Scan" "LEAST" 13 zLeast (fs 1) A U H ∧ Zo "CoatsOnChairs$Scan" "MOST" 13 zMost (fs 2) A U H ∧ Zo "CoatsOnChairs" "FIRST_READER" 7 zReader (fs 3) A U H
theorem Zo.move {C n : String} {L q : Nat} {xs : Nat → Int32} {A B : Nat → Prop} {u U : State} {H H1 : Heap} (h : Zo C n L xs q A u H) (hvm : u.vm.Alike U.vm) (hz : H.size ≤ H1.size) (hk : ∀ a : Nat, a < H.size → ¬ A a → H1[a]? = H[a]?) (hAB : ∀ a, B a → A a) : Zo C n L xs q B U H1 :=
  ⟨((h.1.moved hvm).kept hk).narrow hAB, ((h.2.moved hvm).kept hk).narrow hAB⟩
theorem Zf.move {fs : Nat → Nat} {A B : Nat → Prop} {u U : State} {H H1 : Heap} (h : Zf fs A u H) (hvm : u.vm.Alike U.vm) (hz : H.size ≤ H1.size) (hk : ∀ a : Nat, a < H.size → ¬ A a → H1[a]? = H[a]?) (hAB : ∀ a, B a → A a) : Zf fs B U H1 :=
  ⟨h.1.move hvm hz hk hAB, h.2.1.move hvm hz hk hAB, h.2.2.1.move hvm hz hk hAB, h.2.2.2.move hvm hz hk hAB⟩
def Gf (z : Option (Nat → Nat)) (A : Nat → Prop) (U : State) : Prop := match z with
  | none => True
  | some fs => Zf fs A U U.heap
theorem Gf.to {z : Option (Nat → Nat)} {A B : Nat → Prop} {u U : State} (h : Gf z A u) (hvm : u.vm.Alike U.vm) (hz : u.heap.size ≤ U.heap.size) (hk : ∀ a : Nat, a < u.heap.size → ¬ A a → U.heap[a]? = u.heap[a]?) (hAB : ∀ a, B a → A a) : Gf z B U := by
  cases z with
  | none => trivial
  | some fs => exact Zf.move h hvm hz hk hAB
/-! contracts: a method that makes no cell, from the world w to the world w' -/
def Kp (D : va_G) (cs : Nat → ClassId) (z : Option (Nat → Nat)) (w : va_W) (sz : Nat) : State → Prop := fun U => U.heap.size = sz ∧ va_P D vwCl w U.heap ∧ va_K D vwCl (tyL cs) U ∧ va_D (fun _ => True) w ∧ Gf z (va_A w sz) U
def Kq (D : va_G) (cs : Nat → ClassId) (w' : va_W) (A : Nat → Prop) : Unit → State → Prop := fun _ t => va_P D vwCl w' t.heap ∧ va_K D vwCl (tyL cs) t ∧ va_D A w'
def Ki (l : Launch) (D : va_G) (cs : Nat → ClassId) (z : Option (Nat → Nat)) (y : MethodName) (b : ByteArray) (n : Nat) (rt : Option FieldType) (fr lo : Nat) (w : va_W) (av : List Value) (r : Int32) (w' : va_W) : Prop :=
  ∀ sz, Met l y (.code y b n rt :: gT) { frames := fr, cells := 0, slots := 0, locals := lo } (va_Pc av (Kp D cs z w sz)) (va_Qi (fun (x : Int32) (_ : Unit) => x = r) (Kq D cs w' (va_A w sz)) (va_A w sz)) 0 0 (va_A w sz)
def Kl (l : Launch) (D : va_G) (cs : Nat → ClassId) (z : Option (Nat → Nat)) (y : MethodName) (b : ByteArray) (n : Nat) (rt : Option FieldType) (fr lo : Nat) (w : va_W) (av : List Value) (r : Int64) (w' : va_W) : Prop :=
  ∀ sz, Met l y (.code y b n rt :: gT) { frames := fr, cells := 0, slots := 0, locals := lo } (va_Pc av (Kp D cs z w sz)) (va_Ql (fun (x : Int64) (_ : Unit) => x = r) (Kq D cs w' (va_A w sz)) (va_A w sz)) 0 0 (va_A w sz)
def Kv (l : Launch) (D : va_G) (cs : Nat → ClassId) (z : Option (Nat → Nat)) (y : MethodName) (b : ByteArray) (n : Nat) (rt : Option FieldType) (fr lo : Nat) (w : va_W) (av : List Value) (w' : va_W) : Prop :=
  ∀ sz, Met l y (.code y b n rt :: gT) { frames := fr, cells := 0, slots := 0, locals := lo } (va_Pc av (Kp D cs z w sz)) (va_Qv (fun (_ : Unit) => True) (Kq D cs w' (va_A w sz)) (va_A w sz)) 0 0 (va_A w sz)
theorem Kp.blind {D : va_G} {cs : Nat → ClassId} {z : Option (Nat → Nat)} {w : va_W} {sz : Nat} {av : List Value} : FrameBlind (va_Pc av (Kp D cs z w sz)) := by
  intro a U g mk q
  obtain ⟨q0, q1, qP, qK, qD, qG⟩ := q
  exact ⟨q0, q1, qP, va_K.moved (u := U) (U := U.calling g mk a) (Vm.Alike.refl U.vm) qK, qD, Gf.to (U := U.calling g mk a) qG (Vm.Alike.refl U.vm) (Nat.le_refl _) (fun _ _ _ => rfl) (fun _ h => h)⟩
section KCALL
variable {p : Program} {l : Launch} {e : Env} {R : Room} {s : State} {m : MethodId} {args : Array Value} {below : List Frame} {meth : Method} {c : Code} {H : Heap} {locs : List Loc} {cells slots : Nat} {Q : State → Prop}
variable {cc : ByteArray} {pc nL : Nat} {ls : Array Slot} {rest st0 : List Value} {D : va_G} {cs : Nat → ClassId} {A : Nat → Prop} {own : String} {z : Option (Nat → Nat)} {ws ws' mid mid' : va_W} {y : MethodName} {b : ByteArray} {n fr lo idx a0 ci : Nat} {rt : Option FieldType} {As fs : List Value} {q : vw_C}
theorem k_pre (hK : va_K D vwCl (tyL cs) s) (hA : ∀ x, s.heap.size ≤ x → A x) (hz : Gf z A s) {pre post : va_W} (hW : Wd D A s.heap (pre ++ (mid ++ post)) H locs) :
    va_P D vwCl mid H ∧ va_D A mid ∧ (∀ x, va_A mid H.size x → A x) ∧ ∀ U : State, U.heap = H → s.WarmedH U.vm → Kp D cs z mid H.size U := by
  obtain ⟨hP, hD, hS⟩ := hW
  obtain ⟨hPc, hDc⟩ := k_cut hP hD
  have hF := k_free hDc hS.1 hA
  refine ⟨hPc, hDc, hF, fun U hU hWm => ⟨by rw [hU], by rw [hU]; exact hPc, va_K.moved hWm.alike hK, hDc.weaken (fun _ _ _ _ => trivial), hz.to hWm.alike (by rw [hU]; exact hS.1) (fun a h1 h2 => by rw [hU]; exact hS.2.1 a h1 h2) hF⟩⟩
theorem k_post {pre post : va_W} (hW : Wd D A s.heap (pre ++ (mid ++ post)) H locs) (hF : ∀ x, va_A mid H.size x → A x) {t : State} {H1 : Heap} {locs1 : List Loc} (ht : t.heap = H1) (hB : Kq D cs mid' (va_A mid H.size) () t) (hk1 : ∀ q : Nat, q < H.size → ¬ va_A mid H.size q → H1[q]? = H[q]?) (hS : va_S A s.heap H1 locs1) : Wd D A s.heap (pre ++ (mid' ++ post)) H1 locs1 := by
  obtain ⟨hP1, hK1, hD1⟩ := hB
  rw [ht] at hP1
  obtain ⟨g1, g2⟩ := k_mid hW.1 hW.2.1 hk1 hF hP1 hD1
  exact ⟨g1, g2, hS⟩
abbrev Lk (own : String) (idx : Nat) (y : MethodName) (b : ByteArray) (n : Nat) (rt : Option FieldType) (k : Nat) : Prop := (Cond.methodLink own idx y ∈ gT ∧ Cond.initialized y.cls ∈ gT ∧ Cond.code y b n rt ∈ gT) ∧ y.cls ≠ "java/lang/invoke/MethodHandle" ∧ y.cls ≠ "java/lang/invoke/VarHandle" ∧ (parseMethodDescriptor y.desc).map (fun d => d.parameters.length) = some k
theorem k_cb {k : Nat} (S : Fx p m c cc nL s args own) (L : Lk own idx y b n rt k) (hR : fr + 1 ≤ R.frames ∧ 8 + (n + 11) + lo ≤ R.locals) : CallB R s args own idx y b n rt (.code y b n rt :: gT) { frames := fr, cells := 0, slots := 0, locals := lo } 0 0 k :=
  callB_of k S.2.2.2.2 (gT_good (fun _ h => h) L.1.2.2) rfl rfl rfl (S.2.2.2.2 _ L.1.2.1) (S.2.2.2.2 _ L.1.1) L.2 hR
theorem kV_i {r : Int32} (S : Fx p m c cc nL s args own) (hK : va_K D vwCl (tyL cs) s) (hA : ∀ x, s.heap.size ≤ x → A x) (hz : Gf z A s) (pre post : va_W) (hW : Wd D A s.heap (pre ++ (mid ++ post)) H locs) (hM : Ki l D cs z y b n rt fr lo mid (.ref a0 :: As) r mid') (hc : vwCl[ci]? = some q) (he : mid[0]? = some (a0, .inr (ci, fs)))
    (L : Lk own idx y b n rt As.length) (hi : Cond.instanceMethod y ∈ gT) (hs : Cond.selects q.1 y y ∈ gT) (hR : fr + 1 ≤ R.frames ∧ 8 + (n + 11) + lo ≤ R.locals) (hst : st0 = As.reverse ++ .ref a0 :: rest) (hcat : (rest.map fun v => v.category).sum ≤ 8) (hsz : ls.size = nL) (hdg : decode cc pc = .ok (.invokevirtual idx, 3)) (hf : cells ≤ R.cells ∧ slots ≤ R.slots)
    (kk : ∀ (H : Heap) (locs : List Loc), Wd D A s.heap (pre ++ (mid' ++ post)) H locs → W p l e R s m args below meth c H locs cells slots Q (F0 m (pc + 3) ls (.int r :: rest))) : W p l e R s m args below meth c H locs cells slots Q (F0 m pc ls st0) := by
  obtain ⟨hPc, hDc, hF, hU⟩ := k_pre hK hA hz hW
  refine va_calli (va_runV (C := q.1) (As := As) (rest := rest) S (hM H.size) ⟨k_cb S L hR, S.2.2.2.2 _ hi, S.2.2.2.2 _ hs⟩ ⟨Kp.blind, va_recv hK hPc hc he, fun U h1 h2 => ⟨rfl, hU U h1 h2⟩⟩ rfl rfl hsz hst (lv_room (m := m) (pc := pc) (ls := ls) (rest := st0) hcat) hdg hf) hW.2.2 (fun x _ h => hF x h) hF (fun r1 u t H1 locs1 ht hvm hw hB hz1 hk1 hS => ?_)
  subst hw
  exact kk H1 locs1 (k_post hW hF ht hB hk1 hS)
theorem kV_l {r : Int64} (S : Fx p m c cc nL s args own) (hK : va_K D vwCl (tyL cs) s) (hA : ∀ x, s.heap.size ≤ x → A x) (hz : Gf z A s) (pre post : va_W) (hW : Wd D A s.heap (pre ++ (mid ++ post)) H locs) (hM : Kl l D cs z y b n rt fr lo mid (.ref a0 :: As) r mid') (hc : vwCl[ci]? = some q) (he : mid[0]? = some (a0, .inr (ci, fs)))
    (L : Lk own idx y b n rt As.length) (hi : Cond.instanceMethod y ∈ gT) (hs : Cond.selects q.1 y y ∈ gT) (hR : fr + 1 ≤ R.frames ∧ 8 + (n + 11) + lo ≤ R.locals) (hst : st0 = As.reverse ++ .ref a0 :: rest) (hcat : (rest.map fun v => v.category).sum ≤ 8) (hsz : ls.size = nL) (hdg : decode cc pc = .ok (.invokevirtual idx, 3)) (hf : cells ≤ R.cells ∧ slots ≤ R.slots)
    (kk : ∀ (H : Heap) (locs : List Loc), Wd D A s.heap (pre ++ (mid' ++ post)) H locs → W p l e R s m args below meth c H locs cells slots Q (F0 m (pc + 3) ls (.long r :: rest))) : W p l e R s m args below meth c H locs cells slots Q (F0 m pc ls st0) := by
  obtain ⟨hPc, hDc, hF, hU⟩ := k_pre hK hA hz hW
  refine va_calll (va_runV (C := q.1) (As := As) (rest := rest) S (hM H.size) ⟨k_cb S L hR, S.2.2.2.2 _ hi, S.2.2.2.2 _ hs⟩ ⟨Kp.blind, va_recv hK hPc hc he, fun U h1 h2 => ⟨rfl, hU U h1 h2⟩⟩ rfl rfl hsz hst (lv_room (m := m) (pc := pc) (ls := ls) (rest := st0) hcat) hdg hf) hW.2.2 (fun x _ h => hF x h) hF (fun r1 u t H1 locs1 ht hvm hw hB hz1 hk1 hS => ?_)
  subst hw
  exact kk H1 locs1 (k_post hW hF ht hB hk1 hS)
theorem kV_v (S : Fx p m c cc nL s args own) (hK : va_K D vwCl (tyL cs) s) (hA : ∀ x, s.heap.size ≤ x → A x) (hz : Gf z A s) (pre post : va_W) (hW : Wd D A s.heap (pre ++ (mid ++ post)) H locs) (hM : Kv l D cs z y b n rt fr lo mid (.ref a0 :: As) mid') (hc : vwCl[ci]? = some q) (he : mid[0]? = some (a0, .inr (ci, fs)))
    (L : Lk own idx y b n rt As.length) (hi : Cond.instanceMethod y ∈ gT) (hs : Cond.selects q.1 y y ∈ gT) (hR : fr + 1 ≤ R.frames ∧ 8 + (n + 11) + lo ≤ R.locals) (hst : st0 = As.reverse ++ .ref a0 :: rest) (hcat : (rest.map fun v => v.category).sum ≤ 8) (hsz : ls.size = nL) (hdg : decode cc pc = .ok (.invokevirtual idx, 3)) (hf : cells ≤ R.cells ∧ slots ≤ R.slots)
    (kk : ∀ (H : Heap) (locs : List Loc), Wd D A s.heap (pre ++ (mid' ++ post)) H locs → W p l e R s m args below meth c H locs cells slots Q (F0 m (pc + 3) ls rest)) : W p l e R s m args below meth c H locs cells slots Q (F0 m pc ls st0) := by
  obtain ⟨hPc, hDc, hF, hU⟩ := k_pre hK hA hz hW
  refine va_callv (va_runV (C := q.1) (As := As) (rest := rest) S (hM H.size) ⟨k_cb S L hR, S.2.2.2.2 _ hi, S.2.2.2.2 _ hs⟩ ⟨Kp.blind, va_recv hK hPc hc he, fun U h1 h2 => ⟨rfl, hU U h1 h2⟩⟩ rfl rfl hsz hst (lv_room (m := m) (pc := pc) (ls := ls) (rest := st0) hcat) hdg hf) hW.2.2 (fun x _ h => hF x h) hF (fun u t H1 locs1 ht hvm hw hB hz1 hk1 hS => ?_)
  exact kk H1 locs1 (k_post hW hF ht hB hk1 hS)
theorem kS_i {r : Int32} (S : Fx p m c cc nL s args own) (hK : va_K D vwCl (tyL cs) s) (hA : ∀ x, s.heap.size ≤ x → A x) (hz : Gf z A s) (pre post : va_W) (hW : Wd D A s.heap (pre ++ (mid ++ post)) H locs) (hM : Ki l D cs z y b n rt fr lo mid As r mid')
    (L : Lk own idx y b n rt As.length) (hi : Cond.static y ∈ gT) (hR : fr + 1 ≤ R.frames ∧ 8 + (n + 11) + lo ≤ R.locals) (hst : st0 = As.reverse ++ rest) (hcat : (rest.map fun v => v.category).sum ≤ 8) (hsz : ls.size = nL) (hdg : decode cc pc = .ok (.invokestatic idx, 3)) (hf : cells ≤ R.cells ∧ slots ≤ R.slots)
    (kk : ∀ (H : Heap) (locs : List Loc), Wd D A s.heap (pre ++ (mid' ++ post)) H locs → W p l e R s m args below meth c H locs cells slots Q (F0 m (pc + 3) ls (.int r :: rest))) : W p l e R s m args below meth c H locs cells slots Q (F0 m pc ls st0) := by
  obtain ⟨hPc, hDc, hF, hU⟩ := k_pre hK hA hz hW
  refine va_calli (va_runS (As := As) (rest := rest) S (hM H.size) ⟨k_cb S L hR, S.2.2.2.2 _ hi⟩ ⟨Kp.blind, fun U h1 h2 => ⟨rfl, hU U h1 h2⟩⟩ rfl rfl hsz hst (lv_room (m := m) (pc := pc) (ls := ls) (rest := st0) hcat) hdg hf) hW.2.2 (fun x _ h => hF x h) hF (fun r1 u t H1 locs1 ht hvm hw hB hz1 hk1 hS => ?_)
  subst hw
  exact kk H1 locs1 (k_post hW hF ht hB hk1 hS)
theorem kS_l {r : Int64} (S : Fx p m c cc nL s args own) (hK : va_K D vwCl (tyL cs) s) (hA : ∀ x, s.heap.size ≤ x → A x) (hz : Gf z A s) (pre post : va_W) (hW : Wd D A s.heap (pre ++ (mid ++ post)) H locs) (hM : Kl l D cs z y b n rt fr lo mid As r mid')
    (L : Lk own idx y b n rt As.length) (hi : Cond.static y ∈ gT) (hR : fr + 1 ≤ R.frames ∧ 8 + (n + 11) + lo ≤ R.locals) (hst : st0 = As.reverse ++ rest) (hcat : (rest.map fun v => v.category).sum ≤ 8) (hsz : ls.size = nL) (hdg : decode cc pc = .ok (.invokestatic idx, 3)) (hf : cells ≤ R.cells ∧ slots ≤ R.slots)
    (kk : ∀ (H : Heap) (locs : List Loc), Wd D A s.heap (pre ++ (mid' ++ post)) H locs → W p l e R s m args below meth c H locs cells slots Q (F0 m (pc + 3) ls (.long r :: rest))) : W p l e R s m args below meth c H locs cells slots Q (F0 m pc ls st0) := by
  obtain ⟨hPc, hDc, hF, hU⟩ := k_pre hK hA hz hW
  refine va_calll (va_runS (As := As) (rest := rest) S (hM H.size) ⟨k_cb S L hR, S.2.2.2.2 _ hi⟩ ⟨Kp.blind, fun U h1 h2 => ⟨rfl, hU U h1 h2⟩⟩ rfl rfl hsz hst (lv_room (m := m) (pc := pc) (ls := ls) (rest := st0) hcat) hdg hf) hW.2.2 (fun x _ h => hF x h) hF (fun r1 u t H1 locs1 ht hvm hw hB hz1 hk1 hS => ?_)
  subst hw
  exact kk H1 locs1 (k_post hW hF ht hB hk1 hS)
theorem kS_v (S : Fx p m c cc nL s args own) (hK : va_K D vwCl (tyL cs) s) (hA : ∀ x, s.heap.size ≤ x → A x) (hz : Gf z A s) (pre post : va_W) (hW : Wd D A s.heap (pre ++ (mid ++ post)) H locs) (hM : Kv l D cs z y b n rt fr lo mid As mid')
    (L : Lk own idx y b n rt As.length) (hi : Cond.static y ∈ gT) (hR : fr + 1 ≤ R.frames ∧ 8 + (n + 11) + lo ≤ R.locals) (hst : st0 = As.reverse ++ rest) (hcat : (rest.map fun v => v.category).sum ≤ 8) (hsz : ls.size = nL) (hdg : decode cc pc = .ok (.invokestatic idx, 3)) (hf : cells ≤ R.cells ∧ slots ≤ R.slots)
    (kk : ∀ (H : Heap) (locs : List Loc), Wd D A s.heap (pre ++ (mid' ++ post)) H locs → W p l e R s m args below meth c H locs cells slots Q (F0 m (pc + 3) ls rest)) : W p l e R s m args below meth c H locs cells slots Q (F0 m pc ls st0) := by
  obtain ⟨hPc, hDc, hF, hU⟩ := k_pre hK hA hz hW
  refine va_callv (va_runS (As := As) (rest := rest) S (hM H.size) ⟨k_cb S L hR, S.2.2.2.2 _ hi⟩ ⟨Kp.blind, fun U h1 h2 => ⟨rfl, hU U h1 h2⟩⟩ rfl rfl hsz hst (lv_room (m := m) (pc := pc) (ls := ls) (rest := st0) hcat) hdg hf) hW.2.2 (fun x _ h => hF x h) hF (fun u t H1 locs1 ht hvm hw hB hz1 hk1 hS => ?_)
  exact kk H1 locs1 (k_post hW hF ht hB hk1 hS)
end KCALL
def nm {α : Type} {β : Type} (e : α) (k : α → β) : β := k e
theorem nm_to {α β : Type} {x e : α} {k : α → β} {r : β} (hx : x = e) (h : nm e k = r) : k x = r := by rw [hx]; exact h
theorem nm_some {α β : Type} {e : α} {k : α → β} {r : β} (h : nm e k = r) : ∃ x, x = e ∧ k x = r := ⟨e, rfl, h⟩
/-- a boolean that a method hands on -/
def gB {α : Type} (x : Int32) (k : Option α) : Option α := if x &&& 1 = x then k else none
theorem gB_some {α : Type} {x : Int32} {k : Option α} {r : α} (h : gB x k = some r) : narrow .boolean (.int x) = .int x ∧ k = some r := by
  unfold gB at h
  by_cases hx : x &&& 1 = x
  · rw [if_pos hx] at h
    exact ⟨by show Value.int (x &&& 1) = .int x; rw [hx], h⟩
  · rw [if_neg hx] at h; cases h
section KOF
variable {l : Launch} {D : va_G} {cs : Nat → ClassId} {z : Option (Nat → Nat)} {y : MethodName} {b : ByteArray} {n fr lo : Nat} {w w' : va_W} {av : List Value}
theorem k_start {rt : Option FieldType} {p : Program} {e : Env} {s : State} {m : MethodId} {args : Array Value} {below : List Frame} {meth : Method} {c : Code} {s₁ : State} {sz : Nat} (B : BodyLoose p l y (headSpec (.code y b n rt :: gT) { frames := fr, cells := 0, slots := 0, locals := lo }) b n rt e s m args below meth c s₁) (hml : c.maxLocals = n) (hv : va_Pc av (Kp D cs z w sz) args s) :
    args = av.toArray ∧ s.heap.size = sz ∧ Fx p m c b n s args y.cls ∧ va_K D vwCl (tyL cs) s ∧ (∀ x, s.heap.size ≤ x → va_A w sz x) ∧ Gf z (va_A w sz) s ∧ Wd D (va_A w sz) s.heap w s.heap [] := by
  obtain ⟨rfl, hsz, hP, hK, hD0, hG⟩ := hv
  have hts := atoms_spec (ws := .code y b n rt :: gT) B.pre
  have hown : s.vm.findClass y.cls = some m.cls := findClass_of_methodNamed B.named
  subst hsz
  exact ⟨rfl, rfl, ⟨B.exec, B.bytes, hml, hown, fun w hw => hts w (List.mem_cons_of_mem _ hw)⟩, hK, fun q h => Or.inr h, hG, hP, hD0.self, va_S.rf⟩
theorem Ki_of {r : Int32} {ty : FieldType} (hy : plainName y.cls = true) (hn : (lg_sl av).length ≤ n)
    (body : ∀ (p : Program) (e : Env) (s : State) (m : MethodId) (below : List Frame) (meth : Method) (c : Code) (A : Nat → Prop), Fx p m c b n s av.toArray y.cls → va_K D vwCl (tyL cs) s → (∀ x, s.heap.size ≤ x → A x) → Gf z A s → ∀ (Q : State → Prop),
      (∀ (H : Heap) (locs : List Loc) (pc : Nat) (ls : Array Slot), decode b pc = .ok (.ireturn, 1) → narrow ty (.int r) = .int r → Wd D A s.heap w' H locs → W p l e { frames := fr, cells := 0, slots := 0, locals := lo } s m av.toArray below meth c H locs 0 0 Q (F0 m pc ls [.int r])) →
      ∀ (ls : Array Slot), lv_has ls n (lv_args 0 av) → Wd D A s.heap w s.heap [] → W p l e { frames := fr, cells := 0, slots := 0, locals := lo } s m av.toArray below meth c s.heap [] 0 0 Q (F0 m 0 ls [])) : Ki l D cs z y b n (some ty) fr lo w av r w' := by
  intro sz
  refine Met.ofW (cc := b) (maxL := n) (ret := some ty) hy rfl ?_
  intro p e s m args below meth c s₁ B hml hv
  obtain ⟨rfl, hsz, S, hK, hA, hG, hW⟩ := k_start B hml hv
  have hr := B.returns
  have hlocks := B.notSynchronized
  have hl := lv_entry av hn
  rw [lg_entry_eq]
  refine body p e s m below meth c (va_A w sz) S hK hA hG _ (fun H locs pc ls hd hnw hW => ?_) _ hl hW
  exact W.zret (v := r) S.1 S.2.1 hr hnw (fun t ht hWm => ⟨⟨r, (), rfl, rfl, by rw [ht]; exact hW.1, va_K.moved hWm.alike hK, hW.2.1⟩, hW.2.2.F ht⟩) hW.2.2.2.2 hd
theorem Kl_of {r : Int64} (hy : plainName y.cls = true) (hn : (lg_sl av).length ≤ n)
    (body : ∀ (p : Program) (e : Env) (s : State) (m : MethodId) (below : List Frame) (meth : Method) (c : Code) (A : Nat → Prop), Fx p m c b n s av.toArray y.cls → va_K D vwCl (tyL cs) s → (∀ x, s.heap.size ≤ x → A x) → Gf z A s → ∀ (Q : State → Prop),
      (∀ (H : Heap) (locs : List Loc) (pc : Nat) (ls : Array Slot), decode b pc = .ok (.lreturn, 1) → Wd D A s.heap w' H locs → W p l e { frames := fr, cells := 0, slots := 0, locals := lo } s m av.toArray below meth c H locs 0 0 Q (F0 m pc ls [.long r])) →
      ∀ (ls : Array Slot), lv_has ls n (lv_args 0 av) → Wd D A s.heap w s.heap [] → W p l e { frames := fr, cells := 0, slots := 0, locals := lo } s m av.toArray below meth c s.heap [] 0 0 Q (F0 m 0 ls [])) : Kl l D cs z y b n (some .long) fr lo w av r w' := by
  intro sz
  refine Met.ofW (cc := b) (maxL := n) (ret := some .long) hy rfl ?_
  intro p e s m args below meth c s₁ B hml hv
  obtain ⟨rfl, hsz, S, hK, hA, hG, hW⟩ := k_start B hml hv
  have hr := B.returns
  have hlocks := B.notSynchronized
  have hl := lv_entry av hn
  rw [lg_entry_eq]
  refine body p e s m below meth c (va_A w sz) S hK hA hG _ (fun H locs pc ls hd hW => ?_) _ hl hW
  exact W.lret (v := r) S.1 S.2.1 hr (fun t ht hWm => ⟨⟨r, (), rfl, rfl, by rw [ht]; exact hW.1, va_K.moved hWm.alike hK, hW.2.1⟩, hW.2.2.F ht⟩) hW.2.2.2.2 hd
theorem Kv_of (hy : plainName y.cls = true) (hn : (lg_sl av).length ≤ n)
    (body : ∀ (p : Program) (e : Env) (s : State) (m : MethodId) (below : List Frame) (meth : Method) (c : Code) (A : Nat → Prop), Fx p m c b n s av.toArray y.cls → va_K D vwCl (tyL cs) s → (∀ x, s.heap.size ≤ x → A x) → Gf z A s → ∀ (Q : State → Prop),
      (∀ (H : Heap) (locs : List Loc) (pc : Nat) (ls : Array Slot), decode b pc = .ok (.return_, 1) → Wd D A s.heap w' H locs → W p l e { frames := fr, cells := 0, slots := 0, locals := lo } s m av.toArray below meth c H locs 0 0 Q (F0 m pc ls [])) →
      ∀ (ls : Array Slot), lv_has ls n (lv_args 0 av) → Wd D A s.heap w s.heap [] → W p l e { frames := fr, cells := 0, slots := 0, locals := lo } s m av.toArray below meth c s.heap [] 0 0 Q (F0 m 0 ls [])) : Kv l D cs z y b n none fr lo w av w' := by
  intro sz
  refine Met.ofW (cc := b) (maxL := n) (ret := none) hy rfl ?_
  intro p e s m args below meth c s₁ B hml hv
  obtain ⟨rfl, hsz, S, hK, hA, hG, hW⟩ := k_start B hml hv
  have hr := B.returns
  have hlocks := B.notSynchronized
  have hl := lv_entry av hn
  rw [lg_entry_eq]
  refine body p e s m below meth c (va_A w sz) S hK hA hG _ (fun H locs pc ls hd hW => ?_) _ hl hW
  exact W.vret S.1 S.2.1 hr (fun t ht hWm => ⟨⟨(), rfl, trivial, by rw [ht]; exact hW.1, va_K.moved hWm.alike hK, hW.2.1⟩, hW.2.2.F ht⟩) hW.2.2.2.2 hd
end KOF
