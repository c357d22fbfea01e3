section
-- ===== PART A: goes FIRST, ahead of the names: the tables' words, and 'selects' of the private methods out of them =====
/-- a private method of a class that the tables say can be made, by its rows of tables_1 -/
def lw_okq (q : MethodName × Nat) : Prop := (q.1.cls ≠ "java/lang/invoke/MethodHandle" ∧ q.1.cls ≠ "java/lang/invoke/VarHandle") ∧ Cond.instantiable q.1.cls q.2 ∈ tables_1 ∧ Cond.privateMethod q.1 ∈ tables_1 ∧ Cond.instanceMethod q.1 ∈ tables_1
theorem lw_p0 : lw_okq (⟨"CoatsOnChairs$Scan", "readNumbers", "(I)Z"⟩, 3) := ⟨⟨by decide +kernel, by decide +kernel⟩, List.mem_of_getElem? (i := 36) (by decide +kernel), List.mem_of_getElem? (i := 275) (by decide +kernel), List.mem_of_getElem? (i := 276) (by decide +kernel)⟩
theorem lw_p1 : lw_okq (⟨"CoatsOnChairs$Scan", "readFigures", "()I"⟩, 3) := ⟨⟨by decide +kernel, by decide +kernel⟩, List.mem_of_getElem? (i := 36) (by decide +kernel), List.mem_of_getElem? (i := 281) (by decide +kernel), List.mem_of_getElem? (i := 282) (by decide +kernel)⟩
theorem lw_p2 : lw_okq (⟨"CoatsOnChairs$Scan", "put", "(ILCoatsOnChairs$Room;)Z"⟩, 3) := ⟨⟨by decide +kernel, by decide +kernel⟩, List.mem_of_getElem? (i := 36) (by decide +kernel), List.mem_of_getElem? (i := 289) (by decide +kernel), List.mem_of_getElem? (i := 290) (by decide +kernel)⟩
theorem lw_p3 : lw_okq (⟨"CoatsOnChairs", "isReader", "(I)Z"⟩, 12) := ⟨⟨by decide +kernel, by decide +kernel⟩, List.mem_of_getElem? (i := 14) (by decide +kernel), List.mem_of_getElem? (i := 331) (by decide +kernel), List.mem_of_getElem? (i := 332) (by decide +kernel)⟩
theorem lw_p4 : lw_okq (⟨"CoatsOnChairs", "isSeat", "(I)Z"⟩, 12) := ⟨⟨by decide +kernel, by decide +kernel⟩, List.mem_of_getElem? (i := 14) (by decide +kernel), List.mem_of_getElem? (i := 343) (by decide +kernel), List.mem_of_getElem? (i := 344) (by decide +kernel)⟩
theorem lw_p5 : lw_okq (⟨"CoatsOnChairs$Day", "comeBack", "(I)V"⟩, 20) := ⟨⟨by decide +kernel, by decide +kernel⟩, List.mem_of_getElem? (i := 104) (by decide +kernel), List.mem_of_getElem? (i := 391) (by decide +kernel), List.mem_of_getElem? (i := 392) (by decide +kernel)⟩
theorem lw_p6 : lw_okq (⟨"CoatsOnChairs$Day", "sitDown", "(II)V"⟩, 20) := ⟨⟨by decide +kernel, by decide +kernel⟩, List.mem_of_getElem? (i := 104) (by decide +kernel), List.mem_of_getElem? (i := 399) (by decide +kernel), List.mem_of_getElem? (i := 400) (by decide +kernel)⟩
theorem lw_p7 : lw_okq (⟨"CoatsOnChairs$Day", "freeHeld", "(I)V"⟩, 20) := ⟨⟨by decide +kernel, by decide +kernel⟩, List.mem_of_getElem? (i := 104) (by decide +kernel), List.mem_of_getElem? (i := 403) (by decide +kernel), List.mem_of_getElem? (i := 404) (by decide +kernel)⟩
theorem lw_p8 : lw_okq (⟨"CoatsOnChairs$Day", "offFor", "(II)I"⟩, 20) := ⟨⟨by decide +kernel, by decide +kernel⟩, List.mem_of_getElem? (i := 104) (by decide +kernel), List.mem_of_getElem? (i := 411) (by decide +kernel), List.mem_of_getElem? (i := 412) (by decide +kernel)⟩
theorem lw_p9 : lw_okq (⟨"CoatsOnChairs$Day", "seekSeats", "(I)V"⟩, 20) := ⟨⟨by decide +kernel, by decide +kernel⟩, List.mem_of_getElem? (i := 104) (by decide +kernel), List.mem_of_getElem? (i := 415) (by decide +kernel), List.mem_of_getElem? (i := 416) (by decide +kernel)⟩
theorem lw_p10 : lw_okq (⟨"CoatsOnChairs$Day", "freeSeatFor", "(I)I"⟩, 20) := ⟨⟨by decide +kernel, by decide +kernel⟩, List.mem_of_getElem? (i := 104) (by decide +kernel), List.mem_of_getElem? (i := 419) (by decide +kernel), List.mem_of_getElem? (i := 420) (by decide +kernel)⟩
theorem lw_p11 : lw_okq (⟨"CoatsOnChairs$Day", "daredSeatFor", "(II)I"⟩, 20) := ⟨⟨by decide +kernel, by decide +kernel⟩, List.mem_of_getElem? (i := 104) (by decide +kernel), List.mem_of_getElem? (i := 430) (by decide +kernel), List.mem_of_getElem? (i := 431) (by decide +kernel)⟩
theorem lw_p12 : lw_okq (⟨"CoatsOnChairs$Day", "sitOn", "(I)V"⟩, 20) := ⟨⟨by decide +kernel, by decide +kernel⟩, List.mem_of_getElem? (i := 104) (by decide +kernel), List.mem_of_getElem? (i := 438) (by decide +kernel), List.mem_of_getElem? (i := 439) (by decide +kernel)⟩
theorem lw_p13 : lw_okq (⟨"CoatsOnChairs$Day", "countSeats", "(I)V"⟩, 20) := ⟨⟨by decide +kernel, by decide +kernel⟩, List.mem_of_getElem? (i := 104) (by decide +kernel), List.mem_of_getElem? (i := 442) (by decide +kernel), List.mem_of_getElem? (i := 443) (by decide +kernel)⟩
theorem lw_p14 : lw_okq (⟨"CoatsOnChairs", "runWhole", "(I)V"⟩, 12) := ⟨⟨by decide +kernel, by decide +kernel⟩, List.mem_of_getElem? (i := 14) (by decide +kernel), List.mem_of_getElem? (i := 463) (by decide +kernel), List.mem_of_getElem? (i := 464) (by decide +kernel)⟩
theorem lw_p15 : lw_okq (⟨"CoatsOnChairs", "betters", "(II)Z"⟩, 12) := ⟨⟨by decide +kernel, by decide +kernel⟩, List.mem_of_getElem? (i := 14) (by decide +kernel), List.mem_of_getElem? (i := 500) (by decide +kernel), List.mem_of_getElem? (i := 501) (by decide +kernel)⟩
def lw_privs_1 : List (MethodName × Nat) := [(⟨"CoatsOnChairs$Scan", "readNumbers", "(I)Z"⟩, 3), (⟨"CoatsOnChairs$Scan", "readFigures", "()I"⟩, 3), (⟨"CoatsOnChairs$Scan", "put", "(ILCoatsOnChairs$Room;)Z"⟩, 3), (⟨"CoatsOnChairs", "isReader", "(I)Z"⟩, 12), (⟨"CoatsOnChairs", "isSeat", "(I)Z"⟩, 12), (⟨"CoatsOnChairs$Day", "comeBack", "(I)V"⟩, 20), (⟨"CoatsOnChairs$Day", "sitDown", "(II)V"⟩, 20), (⟨"CoatsOnChairs$Day", "freeHeld", "(I)V"⟩, 20), (⟨"CoatsOnChairs$Day", "offFor", "(II)I"⟩, 20), (⟨"CoatsOnChairs$Day", "seekSeats", "(I)V"⟩, 20), (⟨"CoatsOnChairs$Day", "freeSeatFor", "(I)I"⟩, 20), (⟨"CoatsOnChairs$Day", "daredSeatFor", "(II)I"⟩, 20), (⟨"CoatsOnChairs$Day", "sitOn", "(I)V"⟩, 20), (⟨"CoatsOnChairs$Day", "countSeats", "(I)V"⟩, 20), (⟨"CoatsOnChairs", "runWhole", "(I)V"⟩, 12), (⟨"CoatsOnChairs", "betters", "(II)Z"⟩, 12)]
theorem lw_r1 : ∀ q ∈ lw_privs_1, lw_okq q := List.forall_mem_cons.mpr ⟨lw_p0, List.forall_mem_cons.mpr ⟨lw_p1, List.forall_mem_cons.mpr ⟨lw_p2, List.forall_mem_cons.mpr ⟨lw_p3, List.forall_mem_cons.mpr ⟨lw_p4, List.forall_mem_cons.mpr ⟨lw_p5, List.forall_mem_cons.mpr ⟨lw_p6, List.forall_mem_cons.mpr ⟨lw_p7, List.forall_mem_cons.mpr ⟨lw_p8, List.forall_mem_cons.mpr ⟨lw_p9, List.forall_mem_cons.mpr ⟨lw_p10, List.forall_mem_cons.mpr ⟨lw_p11, List.forall_mem_cons.mpr ⟨lw_p12, List.forall_mem_cons.mpr ⟨lw_p13, List.forall_mem_cons.mpr ⟨lw_p14, List.forall_mem_cons.mpr ⟨lw_p15, fun _ h => absurd h List.not_mem_nil⟩⟩⟩⟩⟩⟩⟩⟩⟩⟩⟩⟩⟩⟩⟩⟩
theorem lw_p16 : lw_okq (⟨"CoatsOnChairs$Game", "minutesIn", "(II)I"⟩, 5) := ⟨⟨by decide +kernel, by decide +kernel⟩, List.mem_of_getElem? (i := 171) (by decide +kernel), List.mem_of_getElem? (i := 526) (by decide +kernel), List.mem_of_getElem? (i := 527) (by decide +kernel)⟩
theorem lw_p17 : lw_okq (⟨"CoatsOnChairs", "shutOutByCards", "(II)I"⟩, 12) := ⟨⟨by decide +kernel, by decide +kernel⟩, List.mem_of_getElem? (i := 14) (by decide +kernel), List.mem_of_getElem? (i := 557) (by decide +kernel), List.mem_of_getElem? (i := 558) (by decide +kernel)⟩
theorem lw_p18 : lw_okq (⟨"CoatsOnChairs", "shutOutByDraw", "(II)I"⟩, 12) := ⟨⟨by decide +kernel, by decide +kernel⟩, List.mem_of_getElem? (i := 14) (by decide +kernel), List.mem_of_getElem? (i := 596) (by decide +kernel), List.mem_of_getElem? (i := 597) (by decide +kernel)⟩
theorem lw_p19 : lw_okq (⟨"CoatsOnChairsModel", "begins", "()V"⟩, 30) := ⟨⟨by decide +kernel, by decide +kernel⟩, List.mem_of_getElem? (i := 627) (by decide +kernel), List.mem_of_getElem? (i := 633) (by decide +kernel), List.mem_of_getElem? (i := 634) (by decide +kernel)⟩
theorem lw_p20 : lw_okq (⟨"CoatsOnChairsModel", "takes", "()V"⟩, 30) := ⟨⟨by decide +kernel, by decide +kernel⟩, List.mem_of_getElem? (i := 627) (by decide +kernel), List.mem_of_getElem? (i := 637) (by decide +kernel), List.mem_of_getElem? (i := 638) (by decide +kernel)⟩
theorem lw_p21 : lw_okq (⟨"CoatsOnChairsModel", "isItem", "()Z"⟩, 30) := ⟨⟨by decide +kernel, by decide +kernel⟩, List.mem_of_getElem? (i := 627) (by decide +kernel), List.mem_of_getElem? (i := 749) (by decide +kernel), List.mem_of_getElem? (i := 750) (by decide +kernel)⟩
theorem lw_p22 : lw_okq (⟨"CoatsOnChairsModel", "number", "()I"⟩, 30) := ⟨⟨by decide +kernel, by decide +kernel⟩, List.mem_of_getElem? (i := 627) (by decide +kernel), List.mem_of_getElem? (i := 756) (by decide +kernel), List.mem_of_getElem? (i := 757) (by decide +kernel)⟩
theorem lw_p23 : lw_okq (⟨"CoatsOnChairsModel", "isGood", "(I)Z"⟩, 30) := ⟨⟨by decide +kernel, by decide +kernel⟩, List.mem_of_getElem? (i := 627) (by decide +kernel), List.mem_of_getElem? (i := 763) (by decide +kernel), List.mem_of_getElem? (i := 764) (by decide +kernel)⟩
theorem lw_p24 : lw_okq (⟨"CoatsOnChairsModel", "isIn", "(III)Z"⟩, 30) := ⟨⟨by decide +kernel, by decide +kernel⟩, List.mem_of_getElem? (i := 627) (by decide +kernel), List.mem_of_getElem? (i := 767) (by decide +kernel), List.mem_of_getElem? (i := 768) (by decide +kernel)⟩
theorem lw_p25 : lw_okq (⟨"CoatsOnChairsModel", "isReader", "(I)Z"⟩, 30) := ⟨⟨by decide +kernel, by decide +kernel⟩, List.mem_of_getElem? (i := 627) (by decide +kernel), List.mem_of_getElem? (i := 780) (by decide +kernel), List.mem_of_getElem? (i := 781) (by decide +kernel)⟩
theorem lw_p26 : lw_okq (⟨"CoatsOnChairsModel", "of", "(II)I"⟩, 30) := ⟨⟨by decide +kernel, by decide +kernel⟩, List.mem_of_getElem? (i := 627) (by decide +kernel), List.mem_of_getElem? (i := 785) (by decide +kernel), List.mem_of_getElem? (i := 786) (by decide +kernel)⟩
theorem lw_p27 : lw_okq (⟨"CoatsOnChairsModel", "goes", "(IIIII)V"⟩, 30) := ⟨⟨by decide +kernel, by decide +kernel⟩, List.mem_of_getElem? (i := 627) (by decide +kernel), List.mem_of_getElem? (i := 809) (by decide +kernel), List.mem_of_getElem? (i := 810) (by decide +kernel)⟩
theorem lw_p28 : lw_okq (⟨"CoatsOnChairsModel", "run", "(IIIII)V"⟩, 30) := ⟨⟨by decide +kernel, by decide +kernel⟩, List.mem_of_getElem? (i := 627) (by decide +kernel), List.mem_of_getElem? (i := 813) (by decide +kernel), List.mem_of_getElem? (i := 814) (by decide +kernel)⟩
theorem lw_p29 : lw_okq (⟨"CoatsOnChairsModel", "minute", "(IIIII)V"⟩, 30) := ⟨⟨by decide +kernel, by decide +kernel⟩, List.mem_of_getElem? (i := 627) (by decide +kernel), List.mem_of_getElem? (i := 817) (by decide +kernel), List.mem_of_getElem? (i := 818) (by decide +kernel)⟩
theorem lw_p30 : lw_okq (⟨"CoatsOnChairsModel", "comesBack", "(II)V"⟩, 30) := ⟨⟨by decide +kernel, by decide +kernel⟩, List.mem_of_getElem? (i := 627) (by decide +kernel), List.mem_of_getElem? (i := 821) (by decide +kernel), List.mem_of_getElem? (i := 822) (by decide +kernel)⟩
theorem lw_p31 : lw_okq (⟨"CoatsOnChairsModel", "frees", "(IIII)V"⟩, 30) := ⟨⟨by decide +kernel, by decide +kernel⟩, List.mem_of_getElem? (i := 627) (by decide +kernel), List.mem_of_getElem? (i := 825) (by decide +kernel), List.mem_of_getElem? (i := 826) (by decide +kernel)⟩
def lw_privs_2 : List (MethodName × Nat) := [(⟨"CoatsOnChairs$Game", "minutesIn", "(II)I"⟩, 5), (⟨"CoatsOnChairs", "shutOutByCards", "(II)I"⟩, 12), (⟨"CoatsOnChairs", "shutOutByDraw", "(II)I"⟩, 12), (⟨"CoatsOnChairsModel", "begins", "()V"⟩, 30), (⟨"CoatsOnChairsModel", "takes", "()V"⟩, 30), (⟨"CoatsOnChairsModel", "isItem", "()Z"⟩, 30), (⟨"CoatsOnChairsModel", "number", "()I"⟩, 30), (⟨"CoatsOnChairsModel", "isGood", "(I)Z"⟩, 30), (⟨"CoatsOnChairsModel", "isIn", "(III)Z"⟩, 30), (⟨"CoatsOnChairsModel", "isReader", "(I)Z"⟩, 30), (⟨"CoatsOnChairsModel", "of", "(II)I"⟩, 30), (⟨"CoatsOnChairsModel", "goes", "(IIIII)V"⟩, 30), (⟨"CoatsOnChairsModel", "run", "(IIIII)V"⟩, 30), (⟨"CoatsOnChairsModel", "minute", "(IIIII)V"⟩, 30), (⟨"CoatsOnChairsModel", "comesBack", "(II)V"⟩, 30), (⟨"CoatsOnChairsModel", "frees", "(IIII)V"⟩, 30)]
theorem lw_r2 : ∀ q ∈ lw_privs_2, lw_okq q := List.forall_mem_cons.mpr ⟨lw_p16, List.forall_mem_cons.mpr ⟨lw_p17, List.forall_mem_cons.mpr ⟨lw_p18, List.forall_mem_cons.mpr ⟨lw_p19, List.forall_mem_cons.mpr ⟨lw_p20, List.forall_mem_cons.mpr ⟨lw_p21, List.forall_mem_cons.mpr ⟨lw_p22, List.forall_mem_cons.mpr ⟨lw_p23, List.forall_mem_cons.mpr ⟨lw_p24, List.forall_mem_cons.mpr ⟨lw_p25, List.forall_mem_cons.mpr ⟨lw_p26, List.forall_mem_cons.mpr ⟨lw_p27, List.forall_mem_cons.mpr ⟨lw_p28, List.forall_mem_cons.mpr ⟨lw_p29, List.forall_mem_cons.mpr ⟨lw_p30, List.forall_mem_cons.mpr ⟨lw_p31, fun _ h => absurd h List.not_mem_nil⟩⟩⟩⟩⟩⟩⟩⟩⟩⟩⟩⟩⟩⟩⟩⟩
theorem lw_p32 : lw_okq (⟨"CoatsOnChairsModel", "seeks", "(III)V"⟩, 30) := ⟨⟨by decide +kernel, by decide +kernel⟩, List.mem_of_getElem? (i := 627) (by decide +kernel), List.mem_of_getElem? (i := 829) (by decide +kernel), List.mem_of_getElem? (i := 830) (by decide +kernel)⟩
theorem lw_p33 : lw_okq (⟨"CoatsOnChairsModel", "takesSeat", "(III)I"⟩, 30) := ⟨⟨by decide +kernel, by decide +kernel⟩, List.mem_of_getElem? (i := 627) (by decide +kernel), List.mem_of_getElem? (i := 833) (by decide +kernel), List.mem_of_getElem? (i := 834) (by decide +kernel)⟩
theorem lw_p34 : lw_okq (⟨"CoatsOnChairsModel", "sitsOn", "(IIII)V"⟩, 30) := ⟨⟨by decide +kernel, by decide +kernel⟩, List.mem_of_getElem? (i := 627) (by decide +kernel), List.mem_of_getElem? (i := 840) (by decide +kernel), List.mem_of_getElem? (i := 841) (by decide +kernel)⟩
theorem lw_p35 : lw_okq (⟨"CoatsOnChairsModel", "whole", "(I)V"⟩, 30) := ⟨⟨by decide +kernel, by decide +kernel⟩, List.mem_of_getElem? (i := 627) (by decide +kernel), List.mem_of_getElem? (i := 853) (by decide +kernel), List.mem_of_getElem? (i := 854) (by decide +kernel)⟩
theorem lw_p36 : lw_okq (⟨"CoatsOnChairsModel", "counted", "(I)I"⟩, 30) := ⟨⟨by decide +kernel, by decide +kernel⟩, List.mem_of_getElem? (i := 627) (by decide +kernel), List.mem_of_getElem? (i := 882) (by decide +kernel), List.mem_of_getElem? (i := 883) (by decide +kernel)⟩
theorem lw_p37 : lw_okq (⟨"CoatsOnChairsModel", "lowest", "(JJ)V"⟩, 30) := ⟨⟨by decide +kernel, by decide +kernel⟩, List.mem_of_getElem? (i := 627) (by decide +kernel), List.mem_of_getElem? (i := 912) (by decide +kernel), List.mem_of_getElem? (i := 913) (by decide +kernel)⟩
theorem lw_p38 : lw_okq (⟨"CoatsOnChairsModel", "drawnDay", "(II)I"⟩, 30) := ⟨⟨by decide +kernel, by decide +kernel⟩, List.mem_of_getElem? (i := 627) (by decide +kernel), List.mem_of_getElem? (i := 933) (by decide +kernel), List.mem_of_getElem? (i := 934) (by decide +kernel)⟩
def lw_privs_3 : List (MethodName × Nat) := [(⟨"CoatsOnChairsModel", "seeks", "(III)V"⟩, 30), (⟨"CoatsOnChairsModel", "takesSeat", "(III)I"⟩, 30), (⟨"CoatsOnChairsModel", "sitsOn", "(IIII)V"⟩, 30), (⟨"CoatsOnChairsModel", "whole", "(I)V"⟩, 30), (⟨"CoatsOnChairsModel", "counted", "(I)I"⟩, 30), (⟨"CoatsOnChairsModel", "lowest", "(JJ)V"⟩, 30), (⟨"CoatsOnChairsModel", "drawnDay", "(II)I"⟩, 30)]
theorem lw_r3 : ∀ q ∈ lw_privs_3, lw_okq q := List.forall_mem_cons.mpr ⟨lw_p32, List.forall_mem_cons.mpr ⟨lw_p33, List.forall_mem_cons.mpr ⟨lw_p34, List.forall_mem_cons.mpr ⟨lw_p35, List.forall_mem_cons.mpr ⟨lw_p36, List.forall_mem_cons.mpr ⟨lw_p37, List.forall_mem_cons.mpr ⟨lw_p38, fun _ h => absurd h List.not_mem_nil⟩⟩⟩⟩⟩⟩⟩
def lw_privs : List (MethodName × Nat) := lw_privs_1 ++ (lw_privs_2 ++ (lw_privs_3))
def lw_tbl : List Cond := k2_sels lw_privs ++ tables_1
theorem lw_privs_ok : ∀ q ∈ lw_privs, lw_okq q := by
  show ∀ q ∈ lw_privs_1 ++ (lw_privs_2 ++ (lw_privs_3)), lw_okq q
  exact List.forall_mem_append.mpr ⟨lw_r1, List.forall_mem_append.mpr ⟨lw_r2, lw_r3⟩⟩

theorem goodIn_r {big : List Cond} (ws : List Cond) (ps : List Nat) (hp : ws = ps.filterMap (fun i => big[i]?)) (h : ws.all goodWord = true) : GoodIn big ws := by
  intro w hw
  have h1 := List.all_eq_true.mp h w hw
  rw [hp] at hw
  obtain ⟨i, -, hi⟩ := List.mem_filterMap.mp hw
  have hm : w ∈ big := by first | exact List.mem_of_getElem? hi | exact List.getElem?_mem hi
  exact ⟨hm, good_of_word h1⟩
theorem goodIn_app {big a b : List Cond} (ha : GoodIn big a) (hb : GoodIn big b) : GoodIn big (a ++ b) := fun w h => (List.mem_append.mp h).elim (ha w) (hb w)
theorem goodIn_ca {big a b : List Cond} {c : Cond} (ha : GoodIn big (c :: a)) (hb : GoodIn big b) : GoodIn big (c :: (a ++ b)) := fun w h => (List.mem_cons.mp h).elim (fun e => ha w (List.mem_cons.mpr (Or.inl e))) (fun h => (List.mem_append.mp h).elim (fun h => ha w (List.mem_cons.mpr (Or.inr h))) (hb w))
theorem goodIn_sub {big ws : List Cond} (hm : ∀ w ∈ ws, w ∈ big) (h : ws.all goodWord = true) : GoodIn big ws := fun w hw => ⟨hm w hw, good_of_word (List.all_eq_true.mp h w hw)⟩
def RX0 : String := "CoatsOnChairs$Day"
def TX0 : u_T := fun k => match k with
  | 0 => ("CoatsOnChairs$Day", "states", "[I", true)
  | 1 => ("CoatsOnChairs$Day", "places", "[I", true)
  | 2 => ("CoatsOnChairs$Day", "since", "[I", true)
  | 3 => ("CoatsOnChairs$Day", "minutesSat", "[I", true)
  | 4 => ("CoatsOnChairs$Day", "arrivals", "[I", true)
  | 5 => ("CoatsOnChairs$Day", "sitters", "[I", true)
  | 6 => ("CoatsOnChairs$Day", "seatHolders", "[I", true)
  | 7 => ("CoatsOnChairs$Day", "sitting", "[I", true)
  | 8 => ("CoatsOnChairs$Day", "room", "LCoatsOnChairs$Room;", false)
  | 9 => ("CoatsOnChairs$Day", "readers", "I", false)
  | 10 => ("CoatsOnChairs$Day", "seats", "I", false)
  | 11 => ("CoatsOnChairs$Day", "rule", "I", false)
  | 12 => ("CoatsOnChairs$Day", "holders", "I", false)
  | 13 => ("CoatsOnChairs$Day", "cardMinutes", "I", false)
  | 14 => ("CoatsOnChairs$Day", "porterMinutes", "I", false)
  | 15 => ("CoatsOnChairs$Day", "ran", "I", false)
  | 16 => ("CoatsOnChairs$Day", "left", "I", false)
  | 17 => ("CoatsOnChairs$Day", "empty", "I", false)
  | 18 => ("CoatsOnChairs$Day", "shutOut", "I", false)
  | _ => ("CoatsOnChairs$Day", "thrownOut", "I", false)
def tyX0 : Nat → FieldType := fun k => match k with
  | 0 => .array .int
  | 1 => .array .int
  | 2 => .array .int
  | 3 => .array .int
  | 4 => .array .int
  | 5 => .array .int
  | 6 => .array .int
  | 7 => .array .int
  | 8 => .object "CoatsOnChairs$Room"
  | 9 => .int
  | 10 => .int
  | 11 => .int
  | 12 => .int
  | 13 => .int
  | 14 => .int
  | 15 => .int
  | 16 => .int
  | 17 => .int
  | 18 => .int
  | _ => .int
theorem nmX0 : ∀ a, a < 20 → ∀ b, b < 20 → a ≠ b → (TX0 a).2.1 ≠ (TX0 b).2.1 := by decide +kernel
theorem tyX0_ok : ∀ k, k < 20 → parseFieldDescriptor (TX0 k).2.2.1 = some (tyX0 k) := by decide +kernel
abbrev cX0_init : ByteArray := prog_2_method_1_code
def yX0_init : MethodName := ⟨RX0, "<init>", "(LCoatsOnChairs$Room;)V"⟩
abbrev cX0_open : ByteArray := prog_2_method_2_code
def yX0_open : MethodName := ⟨RX0, "open", "(LCoatsOnChairs$Room;II)V"⟩
abbrev cX0_useCards : ByteArray := prog_2_method_3_code
def yX0_useCards : MethodName := ⟨RX0, "useCards", "(II)V"⟩
abbrev cX0_comeLater : ByteArray := prog_2_method_4_code
def yX0_comeLater : MethodName := ⟨RX0, "comeLater", "(I)V"⟩
abbrev cX0_runTo : ByteArray := prog_2_method_5_code
def yX0_runTo : MethodName := ⟨RX0, "runTo", "(I)V"⟩
abbrev cX0_comeBack : ByteArray := prog_2_method_6_code
def yX0_comeBack : MethodName := ⟨RX0, "comeBack", "(I)V"⟩
abbrev cX0_freeHeld : ByteArray := prog_2_method_7_code
def yX0_freeHeld : MethodName := ⟨RX0, "freeHeld", "(I)V"⟩
abbrev cX0_seekSeats : ByteArray := prog_2_method_8_code
def yX0_seekSeats : MethodName := ⟨RX0, "seekSeats", "(I)V"⟩
abbrev cX0_freeSeatFor : ByteArray := prog_2_method_9_code
def yX0_freeSeatFor : MethodName := ⟨RX0, "freeSeatFor", "(I)I"⟩
abbrev cX0_daredSeatFor : ByteArray := prog_2_method_10_code
def yX0_daredSeatFor : MethodName := ⟨RX0, "daredSeatFor", "(II)I"⟩
abbrev cX0_sitDown : ByteArray := prog_2_method_11_code
def yX0_sitDown : MethodName := ⟨RX0, "sitDown", "(II)V"⟩
abbrev cX0_sitOn : ByteArray := prog_2_method_12_code
def yX0_sitOn : MethodName := ⟨RX0, "sitOn", "(I)V"⟩
abbrev cX0_countSeats : ByteArray := prog_2_method_13_code
def yX0_countSeats : MethodName := ⟨RX0, "countSeats", "(I)V"⟩
abbrev cX0_offFor : ByteArray := prog_2_method_14_code
def yX0_offFor : MethodName := ⟨RX0, "offFor", "(II)I"⟩
abbrev cX0_sitterOf : ByteArray := prog_2_method_15_code
def yX0_sitterOf : MethodName := ⟨RX0, "sitterOf", "(I)I"⟩
abbrev cX0_holderOf : ByteArray := prog_2_method_16_code
def yX0_holderOf : MethodName := ⟨RX0, "holderOf", "(I)I"⟩
abbrev cX0_stateOf : ByteArray := prog_2_method_17_code
def yX0_stateOf : MethodName := ⟨RX0, "stateOf", "(I)I"⟩
abbrev cX0_minutesOf : ByteArray := prog_2_method_18_code
def yX0_minutesOf : MethodName := ⟨RX0, "minutesOf", "(I)I"⟩
abbrev cX0_used : ByteArray := prog_2_method_19_code
def yX0_used : MethodName := ⟨RX0, "used", "()I"⟩
abbrev cX0_empty : ByteArray := prog_2_method_20_code
def yX0_empty : MethodName := ⟨RX0, "empty", "()I"⟩
abbrev cX0_shutOut : ByteArray := prog_2_method_21_code
def yX0_shutOut : MethodName := ⟨RX0, "shutOut", "()I"⟩
abbrev cX0_thrownOut : ByteArray := prog_2_method_22_code
def yX0_thrownOut : MethodName := ⟨RX0, "thrownOut", "()I"⟩
abbrev cX0_seenEvery : ByteArray := prog_2_method_23_code
def yX0_seenEvery : MethodName := ⟨RX0, "seenEvery", "(I)I"⟩
abbrev cX0_packedMinutes : ByteArray := prog_2_method_24_code
def yX0_packedMinutes : MethodName := ⟨RX0, "packedMinutes", "()J"⟩
def RX1 : String := "CoatsOnChairs$Game"
def TX1 : u_T := fun k => match k with
  | 0 => ("CoatsOnChairs$Game", "day", "LCoatsOnChairs$Day;", true)
  | 1 => ("CoatsOnChairs$Game", "minutes", "[J", true)
  | 2 => ("CoatsOnChairs$Game", "room", "LCoatsOnChairs$Room;", false)
  | 3 => ("CoatsOnChairs$Game", "rule", "I", false)
  | _ => ("CoatsOnChairs$Game", "mattering", "I", false)
def tyX1 : Nat → FieldType := fun k => match k with
  | 0 => .object "CoatsOnChairs$Day"
  | 1 => .array .long
  | 2 => .object "CoatsOnChairs$Room"
  | 3 => .int
  | _ => .int
theorem nmX1 : ∀ a, a < 5 → ∀ b, b < 5 → a ≠ b → (TX1 a).2.1 ≠ (TX1 b).2.1 := by decide +kernel
theorem tyX1_ok : ∀ k, k < 5 → parseFieldDescriptor (TX1 k).2.2.1 = some (tyX1 k) := by decide +kernel
abbrev cX1_init : ByteArray := prog_3_method_1_code
def yX1_init : MethodName := ⟨RX1, "<init>", "(LCoatsOnChairs$Day;LCoatsOnChairs$Room;)V"⟩
abbrev cX1_forget : ByteArray := prog_3_method_2_code
def yX1_forget : MethodName := ⟨RX1, "forget", "(LCoatsOnChairs$Room;)V"⟩
abbrev cX1_playBy : ByteArray := prog_3_method_3_code
def yX1_playBy : MethodName := ⟨RX1, "playBy", "(I)V"⟩
abbrev cX1_isRest : ByteArray := prog_3_method_4_code
def yX1_isRest : MethodName := ⟨RX1, "isRest", "(I)Z"⟩
abbrev cX1_minutesIn : ByteArray := prog_3_method_5_code
def yX1_minutesIn : MethodName := ⟨RX1, "minutesIn", "(II)I"⟩
def RX2 : String := "CoatsOnChairs$Odds"
def TX2 : u_T := fun k => match k with
  | _ => ("", "", "", false)
def tyX2 : Nat → FieldType := fun k => match k with
  | _ => .int
theorem nmX2 : ∀ a, a < 0 → ∀ b, b < 0 → a ≠ b → (TX2 a).2.1 ≠ (TX2 b).2.1 := by decide +kernel
theorem tyX2_ok : ∀ k, k < 0 → parseFieldDescriptor (TX2 k).2.2.1 = some (tyX2 k) := by decide +kernel
abbrev cX2_noMoreThan : ByteArray := prog_4_method_2_code
def yX2_noMoreThan : MethodName := ⟨RX2, "noMoreThan", "(III)J"⟩
abbrev cX2_power : ByteArray := prog_4_method_3_code
def yX2_power : MethodName := ⟨RX2, "power", "(II)J"⟩
abbrev cX2_commonDivisor : ByteArray := prog_4_method_4_code
def yX2_commonDivisor : MethodName := ⟨RX2, "commonDivisor", "(JJ)J"⟩
def RX3 : String := "CoatsOnChairs$Room"
def TX3 : u_T := fun k => match k with
  | 0 => ("CoatsOnChairs$Room", "kinds", "[I", true)
  | 1 => ("CoatsOnChairs$Room", "numbers", "[I", true)
  | 2 => ("CoatsOnChairs$Room", "seats", "I", false)
  | 3 => ("CoatsOnChairs$Room", "readers", "I", false)
  | 4 => ("CoatsOnChairs$Room", "cardMinutes", "I", false)
  | 5 => ("CoatsOnChairs$Room", "porterMinutes", "I", false)
  | 6 => ("CoatsOnChairs$Room", "lampMinutes", "I", false)
  | 7 => ("CoatsOnChairs$Room", "seekMinutes", "I", false)
  | _ => ("CoatsOnChairs$Room", "laterMinutes", "I", false)
def tyX3 : Nat → FieldType := fun k => match k with
  | 0 => .array .int
  | 1 => .array .int
  | 2 => .int
  | 3 => .int
  | 4 => .int
  | 5 => .int
  | 6 => .int
  | 7 => .int
  | _ => .int
theorem nmX3 : ∀ a, a < 9 → ∀ b, b < 9 → a ≠ b → (TX3 a).2.1 ≠ (TX3 b).2.1 := by decide +kernel
theorem tyX3_ok : ∀ k, k < 9 → parseFieldDescriptor (TX3 k).2.2.1 = some (tyX3 k) := by decide +kernel
abbrev cX3_init : ByteArray := prog_5_method_1_code
def yX3_init : MethodName := ⟨RX3, "<init>", "()V"⟩
abbrev cX3_clear : ByteArray := prog_5_method_2_code
def yX3_clear : MethodName := ⟨RX3, "clear", "()V"⟩
abbrev cX3_addSeat : ByteArray := prog_5_method_3_code
def yX3_addSeat : MethodName := ⟨RX3, "addSeat", "(I)Z"⟩
abbrev cX3_addReader : ByteArray := prog_5_method_4_code
def yX3_addReader : MethodName := ⟨RX3, "addReader", "([I)Z"⟩
abbrev cX3_setCards : ByteArray := prog_5_method_5_code
def yX3_setCards : MethodName := ⟨RX3, "setCards", "(II)Z"⟩
abbrev cX3_setLamps : ByteArray := prog_5_method_6_code
def yX3_setLamps : MethodName := ⟨RX3, "setLamps", "(I)Z"⟩
abbrev cX3_setSeeking : ByteArray := prog_5_method_7_code
def yX3_setSeeking : MethodName := ⟨RX3, "setSeeking", "(I)Z"⟩
abbrev cX3_setLater : ByteArray := prog_5_method_8_code
def yX3_setLater : MethodName := ⟨RX3, "setLater", "(I)Z"⟩
abbrev cX3_seatCount : ByteArray := prog_5_method_9_code
def yX3_seatCount : MethodName := ⟨RX3, "seatCount", "()I"⟩
abbrev cX3_readerCount : ByteArray := prog_5_method_10_code
def yX3_readerCount : MethodName := ⟨RX3, "readerCount", "()I"⟩
abbrev cX3_cardMinutes : ByteArray := prog_5_method_11_code
def yX3_cardMinutes : MethodName := ⟨RX3, "cardMinutes", "()I"⟩
abbrev cX3_porterMinutes : ByteArray := prog_5_method_12_code
def yX3_porterMinutes : MethodName := ⟨RX3, "porterMinutes", "()I"⟩
abbrev cX3_lampMinutes : ByteArray := prog_5_method_13_code
def yX3_lampMinutes : MethodName := ⟨RX3, "lampMinutes", "()I"⟩
abbrev cX3_seekMinutes : ByteArray := prog_5_method_14_code
def yX3_seekMinutes : MethodName := ⟨RX3, "seekMinutes", "()I"⟩
abbrev cX3_laterMinutes : ByteArray := prog_5_method_15_code
def yX3_laterMinutes : MethodName := ⟨RX3, "laterMinutes", "()I"⟩
abbrev cX3_everybody : ByteArray := prog_5_method_16_code
def yX3_everybody : MethodName := ⟨RX3, "everybody", "()I"⟩
abbrev cX3_kindOf : ByteArray := prog_5_method_17_code
def yX3_kindOf : MethodName := ⟨RX3, "kindOf", "(I)I"⟩
abbrev cX3_number : ByteArray := prog_5_method_18_code
def yX3_number : MethodName := ⟨RX3, "number", "(II)I"⟩
abbrev cX3_goesOff : ByteArray := prog_5_method_19_code
def yX3_goesOff : MethodName := ⟨RX3, "goesOff", "(I)Z"⟩
def RX4 : String := "CoatsOnChairs$Scan"
def TX4 : u_T := fun k => match k with
  | 0 => ("CoatsOnChairs$Scan", "text", "LCoatsOnChairs$Text;", true)
  | 1 => ("CoatsOnChairs$Scan", "numbers", "[I", true)
  | _ => ("CoatsOnChairs$Scan", "at", "I", false)
def tyX4 : Nat → FieldType := fun k => match k with
  | 0 => .object "CoatsOnChairs$Text"
  | 1 => .array .int
  | _ => .int
theorem nmX4 : ∀ a, a < 3 → ∀ b, b < 3 → a ≠ b → (TX4 a).2.1 ≠ (TX4 b).2.1 := by decide +kernel
theorem tyX4_ok : ∀ k, k < 3 → parseFieldDescriptor (TX4 k).2.2.1 = some (tyX4 k) := by decide +kernel
abbrev cX4_init : ByteArray := prog_6_method_1_code
def yX4_init : MethodName := ⟨RX4, "<init>", "(LCoatsOnChairs$Text;)V"⟩
abbrev cX4_readInto : ByteArray := prog_6_method_2_code
def yX4_readInto : MethodName := ⟨RX4, "readInto", "(LCoatsOnChairs$Room;)I"⟩
abbrev cX4_itemOf : ByteArray := prog_6_method_3_code
def yX4_itemOf : MethodName := ⟨RX4, "itemOf", "(I)I"⟩
abbrev cX4_readNumbers : ByteArray := prog_6_method_4_code
def yX4_readNumbers : MethodName := ⟨RX4, "readNumbers", "(I)Z"⟩
abbrev cX4_readFigures : ByteArray := prog_6_method_5_code
def yX4_readFigures : MethodName := ⟨RX4, "readFigures", "()I"⟩
abbrev cX4_put : ByteArray := prog_6_method_6_code
def yX4_put : MethodName := ⟨RX4, "put", "(ILCoatsOnChairs$Room;)Z"⟩
def RX5 : String := "CoatsOnChairs$Text"
def TX5 : u_T := fun k => match k with
  | 0 => ("CoatsOnChairs$Text", "bytes", "[B", true)
  | _ => ("CoatsOnChairs$Text", "length", "I", false)
def tyX5 : Nat → FieldType := fun k => match k with
  | 0 => .array .byte
  | _ => .int
theorem nmX5 : ∀ a, a < 2 → ∀ b, b < 2 → a ≠ b → (TX5 a).2.1 ≠ (TX5 b).2.1 := by decide +kernel
theorem tyX5_ok : ∀ k, k < 2 → parseFieldDescriptor (TX5 k).2.2.1 = some (tyX5 k) := by decide +kernel
abbrev cX5_init : ByteArray := prog_7_method_1_code
def yX5_init : MethodName := ⟨RX5, "<init>", "()V"⟩
abbrev cX5_length : ByteArray := prog_7_method_2_code
def yX5_length : MethodName := ⟨RX5, "length", "()I"⟩
abbrev cX5_clear : ByteArray := prog_7_method_3_code
def yX5_clear : MethodName := ⟨RX5, "clear", "()V"⟩
abbrev cX5_append : ByteArray := prog_7_method_4_code
def yX5_append : MethodName := ⟨RX5, "append", "(IJ)Z"⟩
abbrev cX5_byteAt : ByteArray := prog_7_method_5_code
def yX5_byteAt : MethodName := ⟨RX5, "byteAt", "(I)I"⟩
def RX6 : String := "CoatsOnChairs"
def TX6 : u_T := fun k => match k with
  | 0 => ("CoatsOnChairs", "text", "LCoatsOnChairs$Text;", true)
  | 1 => ("CoatsOnChairs", "scan", "LCoatsOnChairs$Scan;", true)
  | 2 => ("CoatsOnChairs", "today", "LCoatsOnChairs$Day;", true)
  | 3 => ("CoatsOnChairs", "game", "LCoatsOnChairs$Game;", true)
  | 4 => ("CoatsOnChairs", "usedBy", "[I", true)
  | 5 => ("CoatsOnChairs", "shutOutBy", "[I", true)
  | 6 => ("CoatsOnChairs", "thrownOutBy", "[I", true)
  | 7 => ("CoatsOnChairs", "kept", "[I", true)
  | 8 => ("CoatsOnChairs", "keptCount", "I", false)
  | 9 => ("CoatsOnChairs", "holders", "I", false)
  | 10 => ("CoatsOnChairs", "laid", "LCoatsOnChairs$Room;", false)
  | _ => ("CoatsOnChairs", "draft", "LCoatsOnChairs$Room;", false)
def tyX6 : Nat → FieldType := fun k => match k with
  | 0 => .object "CoatsOnChairs$Text"
  | 1 => .object "CoatsOnChairs$Scan"
  | 2 => .object "CoatsOnChairs$Day"
  | 3 => .object "CoatsOnChairs$Game"
  | 4 => .array .int
  | 5 => .array .int
  | 6 => .array .int
  | 7 => .array .int
  | 8 => .int
  | 9 => .int
  | 10 => .object "CoatsOnChairs$Room"
  | _ => .object "CoatsOnChairs$Room"
theorem nmX6 : ∀ a, a < 12 → ∀ b, b < 12 → a ≠ b → (TX6 a).2.1 ≠ (TX6 b).2.1 := by decide +kernel
theorem tyX6_ok : ∀ k, k < 12 → parseFieldDescriptor (TX6 k).2.2.1 = some (tyX6 k) := by decide +kernel
abbrev cX6_init : ByteArray := prog_1_method_1_code
def yX6_init : MethodName := ⟨RX6, "<init>", "()V"⟩
abbrev cX6_write : ByteArray := prog_1_method_2_code
def yX6_write : MethodName := ⟨RX6, "write", "(IJ)I"⟩
abbrev cX6_wipe : ByteArray := prog_1_method_3_code
def yX6_wipe : MethodName := ⟨RX6, "wipe", "()I"⟩
abbrev cX6_fault : ByteArray := prog_1_method_4_code
def yX6_fault : MethodName := ⟨RX6, "fault", "()I"⟩
abbrev cX6_lay : ByteArray := prog_1_method_5_code
def yX6_lay : MethodName := ⟨RX6, "lay", "()I"⟩
abbrev cX6_reader : ByteArray := prog_1_method_6_code
def yX6_reader : MethodName := ⟨RX6, "reader", "(II)I"⟩
abbrev cX6_kind : ByteArray := prog_1_method_7_code
def yX6_kind : MethodName := ⟨RX6, "kind", "(I)I"⟩
abbrev cX6_hold : ByteArray := prog_1_method_8_code
def yX6_hold : MethodName := ⟨RX6, "hold", "(IZ)I"⟩
abbrev cX6_seat : ByteArray := prog_1_method_9_code
def yX6_seat : MethodName := ⟨RX6, "seat", "(IIII)I"⟩
abbrev cX6_does : ByteArray := prog_1_method_10_code
def yX6_does : MethodName := ⟨RX6, "does", "(III)I"⟩
abbrev cX6_day : ByteArray := prog_1_method_11_code
def yX6_day : MethodName := ⟨RX6, "day", "(II)I"⟩
abbrev cX6_sat : ByteArray := prog_1_method_12_code
def yX6_sat : MethodName := ⟨RX6, "sat", "(II)I"⟩
abbrev cX6_bettered : ByteArray := prog_1_method_13_code
def yX6_bettered : MethodName := ⟨RX6, "bettered", "()I"⟩
abbrev cX6_rest : ByteArray := prog_1_method_14_code
def yX6_rest : MethodName := ⟨RX6, "rest", "(II)I"⟩
abbrev cX6_rests : ByteArray := prog_1_method_15_code
def yX6_rests : MethodName := ⟨RX6, "rests", "(II)I"⟩
abbrev cX6_rounds : ByteArray := prog_1_method_16_code
def yX6_rounds : MethodName := ⟨RX6, "rounds", "(II)I"⟩
abbrev cX6_often : ByteArray := prog_1_method_17_code
def yX6_often : MethodName := ⟨RX6, "often", "(II)I"⟩
abbrev cX6_porter : ByteArray := prog_1_method_18_code
def yX6_porter : MethodName := ⟨RX6, "porter", "(I)I"⟩
abbrev cX6_card : ByteArray := prog_1_method_19_code
def yX6_card : MethodName := ⟨RX6, "card", "(I)I"⟩
abbrev cX6_booked : ByteArray := prog_1_method_20_code
def yX6_booked : MethodName := ⟨RX6, "booked", "(IIII)J"⟩
abbrev cX6_over : ByteArray := prog_1_method_21_code
def yX6_over : MethodName := ⟨RX6, "over", "(III)I"⟩
abbrev cX6_dare : ByteArray := prog_1_method_22_code
def yX6_dare : MethodName := ⟨RX6, "dare", "(III)I"⟩
abbrev cX6_drawn : ByteArray := prog_1_method_23_code
def yX6_drawn : MethodName := ⟨RX6, "drawn", "(II)I"⟩
abbrev cX6_ten : ByteArray := prog_1_method_24_code
def yX6_ten : MethodName := ⟨RX6, "ten", "(II)I"⟩
abbrev cX6_keep : ByteArray := prog_1_method_25_code
def yX6_keep : MethodName := ⟨RX6, "keep", "()I"⟩
abbrev cX6_back : ByteArray := prog_1_method_26_code
def yX6_back : MethodName := ⟨RX6, "back", "()I"⟩
abbrev cX6_count : ByteArray := prog_1_method_27_code
def yX6_count : MethodName := ⟨RX6, "count", "(I)I"⟩
abbrev cX6_betters : ByteArray := prog_1_method_28_code
def yX6_betters : MethodName := ⟨RX6, "betters", "(II)Z"⟩
abbrev cX6_runWhole : ByteArray := prog_1_method_29_code
def yX6_runWhole : MethodName := ⟨RX6, "runWhole", "(I)V"⟩
abbrev cX6_shutOutByCards : ByteArray := prog_1_method_30_code
def yX6_shutOutByCards : MethodName := ⟨RX6, "shutOutByCards", "(II)I"⟩
abbrev cX6_shutOutByDraw : ByteArray := prog_1_method_31_code
def yX6_shutOutByDraw : MethodName := ⟨RX6, "shutOutByDraw", "(II)I"⟩
abbrev cX6_isReader : ByteArray := prog_1_method_32_code
def yX6_isReader : MethodName := ⟨RX6, "isReader", "(I)Z"⟩
abbrev cX6_isSeat : ByteArray := prog_1_method_33_code
def yX6_isSeat : MethodName := ⟨RX6, "isSeat", "(I)Z"⟩
abbrev cX6_isRule : ByteArray := prog_1_method_34_code
def yX6_isRule : MethodName := ⟨RX6, "isRule", "(I)Z"⟩
abbrev cX6_within : ByteArray := prog_1_method_35_code
def yX6_within : MethodName := ⟨RX6, "within", "(III)Z"⟩
def RX7 : String := "CoatsOnChairsModel"
def TX7 : u_T := fun k => match k with
  | 0 => ("CoatsOnChairsModel", "length", "I", false)
  | 1 => ("CoatsOnChairsModel", "text", "[B", true)
  | 2 => ("CoatsOnChairsModel", "at", "I", false)
  | 3 => ("CoatsOnChairsModel", "seats", "[I", true)
  | 4 => ("CoatsOnChairsModel", "readers", "[I", true)
  | 5 => ("CoatsOnChairsModel", "kind", "[I", true)
  | 6 => ("CoatsOnChairsModel", "reader", "[I", true)
  | 7 => ("CoatsOnChairsModel", "told", "[I", true)
  | 8 => ("CoatsOnChairsModel", "holders", "I", false)
  | 9 => ("CoatsOnChairsModel", "kept", "I", false)
  | 10 => ("CoatsOnChairsModel", "keptHolders", "[I", true)
  | 11 => ("CoatsOnChairsModel", "does", "[I", true)
  | 12 => ("CoatsOnChairsModel", "place", "[I", true)
  | 13 => ("CoatsOnChairsModel", "sat", "[I", true)
  | 14 => ("CoatsOnChairsModel", "since", "[I", true)
  | 15 => ("CoatsOnChairsModel", "went", "[I", true)
  | 16 => ("CoatsOnChairsModel", "held", "[Z", true)
  | 17 => ("CoatsOnChairsModel", "late", "[I", true)
  | 18 => ("CoatsOnChairsModel", "sits", "[I", true)
  | 19 => ("CoatsOnChairsModel", "holds", "[I", true)
  | 20 => ("CoatsOnChairsModel", "used", "I", false)
  | 21 => ("CoatsOnChairsModel", "empty", "I", false)
  | 22 => ("CoatsOnChairsModel", "shut", "I", false)
  | 23 => ("CoatsOnChairsModel", "thrown", "I", false)
  | 24 => ("CoatsOnChairsModel", "seen", "[I", true)
  | 25 => ("CoatsOnChairsModel", "sets", "[I", true)
  | 26 => ("CoatsOnChairsModel", "ruled", "[I", true)
  | 27 => ("CoatsOnChairsModel", "above", "J", false)
  | 28 => ("CoatsOnChairsModel", "below", "J", false)
  | _ => ("CoatsOnChairsModel", "got", "[I", true)
def tyX7 : Nat → FieldType := fun k => match k with
  | 0 => .int
  | 1 => .array .byte
  | 2 => .int
  | 3 => .array .int
  | 4 => .array .int
  | 5 => .array .int
  | 6 => .array .int
  | 7 => .array .int
  | 8 => .int
  | 9 => .int
  | 10 => .array .int
  | 11 => .array .int
  | 12 => .array .int
  | 13 => .array .int
  | 14 => .array .int
  | 15 => .array .int
  | 16 => .array .boolean
  | 17 => .array .int
  | 18 => .array .int
  | 19 => .array .int
  | 20 => .int
  | 21 => .int
  | 22 => .int
  | 23 => .int
  | 24 => .array .int
  | 25 => .array .int
  | 26 => .array .int
  | 27 => .long
  | 28 => .long
  | _ => .array .int
theorem nmX7 : ∀ a, a < 30 → ∀ b, b < 30 → a ≠ b → (TX7 a).2.1 ≠ (TX7 b).2.1 := by decide +kernel
theorem tyX7_ok : ∀ k, k < 30 → parseFieldDescriptor (TX7 k).2.2.1 = some (tyX7 k) := by decide +kernel
abbrev cX7_init : ByteArray := prog_9_method_1_code
def yX7_init : MethodName := ⟨RX7, "<init>", "()V"⟩
abbrev cX7_in : ByteArray := prog_9_method_2_code
def yX7_in : MethodName := ⟨RX7, "in", "(JJJ)Z"⟩
abbrev cX7_write : ByteArray := prog_9_method_3_code
def yX7_write : MethodName := ⟨RX7, "write", "(IJ)I"⟩
abbrev cX7_wipe : ByteArray := prog_9_method_4_code
def yX7_wipe : MethodName := ⟨RX7, "wipe", "()I"⟩
abbrev cX7_number : ByteArray := prog_9_method_5_code
def yX7_number : MethodName := ⟨RX7, "number", "()I"⟩
abbrev cX7_parts : ByteArray := prog_9_method_6_code
def yX7_parts : MethodName := ⟨RX7, "parts", "(I)I"⟩
abbrev cX7_isItem : ByteArray := prog_9_method_7_code
def yX7_isItem : MethodName := ⟨RX7, "isItem", "()Z"⟩
abbrev cX7_isIn : ByteArray := prog_9_method_8_code
def yX7_isIn : MethodName := ⟨RX7, "isIn", "(III)Z"⟩
abbrev cX7_isGood : ByteArray := prog_9_method_9_code
def yX7_isGood : MethodName := ⟨RX7, "isGood", "(I)Z"⟩
abbrev cX7_begins : ByteArray := prog_9_method_10_code
def yX7_begins : MethodName := ⟨RX7, "begins", "()V"⟩
abbrev cX7_takes : ByteArray := prog_9_method_11_code
def yX7_takes : MethodName := ⟨RX7, "takes", "()V"⟩
abbrev cX7_fault : ByteArray := prog_9_method_12_code
def yX7_fault : MethodName := ⟨RX7, "fault", "()I"⟩
abbrev cX7_lay : ByteArray := prog_9_method_13_code
def yX7_lay : MethodName := ⟨RX7, "lay", "()I"⟩
abbrev cX7_isReader : ByteArray := prog_9_method_14_code
def yX7_isReader : MethodName := ⟨RX7, "isReader", "(I)Z"⟩
abbrev cX7_isRule : ByteArray := prog_9_method_15_code
def yX7_isRule : MethodName := ⟨RX7, "isRule", "(I)Z"⟩
abbrev cX7_isMinute : ByteArray := prog_9_method_16_code
def yX7_isMinute : MethodName := ⟨RX7, "isMinute", "(I)Z"⟩
abbrev cX7_of : ByteArray := prog_9_method_17_code
def yX7_of : MethodName := ⟨RX7, "of", "(II)I"⟩
abbrev cX7_reader : ByteArray := prog_9_method_18_code
def yX7_reader : MethodName := ⟨RX7, "reader", "(II)I"⟩
abbrev cX7_kind : ByteArray := prog_9_method_19_code
def yX7_kind : MethodName := ⟨RX7, "kind", "(I)I"⟩
abbrev cX7_hold : ByteArray := prog_9_method_20_code
def yX7_hold : MethodName := ⟨RX7, "hold", "(IZ)I"⟩
abbrev cX7_comesBack : ByteArray := prog_9_method_21_code
def yX7_comesBack : MethodName := ⟨RX7, "comesBack", "(II)V"⟩
abbrev cX7_frees : ByteArray := prog_9_method_22_code
def yX7_frees : MethodName := ⟨RX7, "frees", "(IIII)V"⟩
abbrev cX7_bits : ByteArray := prog_9_method_23_code
def yX7_bits : MethodName := ⟨RX7, "bits", "(I)I"⟩
abbrev cX7_takesSeat : ByteArray := prog_9_method_24_code
def yX7_takesSeat : MethodName := ⟨RX7, "takesSeat", "(III)I"⟩
abbrev cX7_seeks : ByteArray := prog_9_method_25_code
def yX7_seeks : MethodName := ⟨RX7, "seeks", "(III)V"⟩
abbrev cX7_sitsOn : ByteArray := prog_9_method_26_code
def yX7_sitsOn : MethodName := ⟨RX7, "sitsOn", "(IIII)V"⟩
abbrev cX7_minute : ByteArray := prog_9_method_27_code
def yX7_minute : MethodName := ⟨RX7, "minute", "(IIIII)V"⟩
abbrev cX7_goes : ByteArray := prog_9_method_28_code
def yX7_goes : MethodName := ⟨RX7, "goes", "(IIIII)V"⟩
abbrev cX7_run : ByteArray := prog_9_method_29_code
def yX7_run : MethodName := ⟨RX7, "run", "(IIIII)V"⟩
abbrev cX7_whole : ByteArray := prog_9_method_30_code
def yX7_whole : MethodName := ⟨RX7, "whole", "(I)V"⟩
abbrev cX7_seat : ByteArray := prog_9_method_31_code
def yX7_seat : MethodName := ⟨RX7, "seat", "(IIII)I"⟩
abbrev cX7_does : ByteArray := prog_9_method_32_code
def yX7_does : MethodName := ⟨RX7, "does", "(III)I"⟩
abbrev cX7_many : ByteArray := prog_9_method_33_code
def yX7_many : MethodName := ⟨RX7, "many", "(I)I"⟩
abbrev cX7_day : ByteArray := prog_9_method_34_code
def yX7_day : MethodName := ⟨RX7, "day", "(II)I"⟩
abbrev cX7_sat : ByteArray := prog_9_method_35_code
def yX7_sat : MethodName := ⟨RX7, "sat", "(II)I"⟩
abbrev cX7_bettered : ByteArray := prog_9_method_36_code
def yX7_bettered : MethodName := ⟨RX7, "bettered", "()I"⟩
abbrev cX7_rest : ByteArray := prog_9_method_37_code
def yX7_rest : MethodName := ⟨RX7, "rest", "(II)I"⟩
abbrev cX7_rests : ByteArray := prog_9_method_38_code
def yX7_rests : MethodName := ⟨RX7, "rests", "(II)I"⟩
abbrev cX7_counted : ByteArray := prog_9_method_39_code
def yX7_counted : MethodName := ⟨RX7, "counted", "(I)I"⟩
abbrev cX7_rounds : ByteArray := prog_9_method_40_code
def yX7_rounds : MethodName := ⟨RX7, "rounds", "(II)I"⟩
abbrev cX7_often : ByteArray := prog_9_method_41_code
def yX7_often : MethodName := ⟨RX7, "often", "(II)I"⟩
abbrev cX7_porter : ByteArray := prog_9_method_42_code
def yX7_porter : MethodName := ⟨RX7, "porter", "(I)I"⟩
abbrev cX7_card : ByteArray := prog_9_method_43_code
def yX7_card : MethodName := ⟨RX7, "card", "(I)I"⟩
abbrev cX7_power : ByteArray := prog_9_method_44_code
def yX7_power : MethodName := ⟨RX7, "power", "(II)J"⟩
abbrev cX7_come : ByteArray := prog_9_method_45_code
def yX7_come : MethodName := ⟨RX7, "come", "(III)J"⟩
abbrev cX7_lowest : ByteArray := prog_9_method_46_code
def yX7_lowest : MethodName := ⟨RX7, "lowest", "(JJ)V"⟩
abbrev cX7_booked : ByteArray := prog_9_method_47_code
def yX7_booked : MethodName := ⟨RX7, "booked", "(IIII)J"⟩
abbrev cX7_over : ByteArray := prog_9_method_48_code
def yX7_over : MethodName := ⟨RX7, "over", "(III)I"⟩
abbrev cX7_dare : ByteArray := prog_9_method_49_code
def yX7_dare : MethodName := ⟨RX7, "dare", "(III)I"⟩
abbrev cX7_drawnDay : ByteArray := prog_9_method_50_code
def yX7_drawnDay : MethodName := ⟨RX7, "drawnDay", "(II)I"⟩
abbrev cX7_isSeed : ByteArray := prog_9_method_51_code
def yX7_isSeed : MethodName := ⟨RX7, "isSeed", "(I)Z"⟩
abbrev cX7_drawn : ByteArray := prog_9_method_52_code
def yX7_drawn : MethodName := ⟨RX7, "drawn", "(II)I"⟩
abbrev cX7_ten : ByteArray := prog_9_method_53_code
def yX7_ten : MethodName := ⟨RX7, "ten", "(II)I"⟩
abbrev cX7_keep : ByteArray := prog_9_method_54_code
def yX7_keep : MethodName := ⟨RX7, "keep", "()I"⟩
abbrev cX7_back : ByteArray := prog_9_method_55_code
def yX7_back : MethodName := ⟨RX7, "back", "()I"⟩
abbrev cX7_count : ByteArray := prog_9_method_56_code
def yX7_count : MethodName := ⟨RX7, "count", "(I)I"⟩
def RJ6 : String := "java/lang/Integer"
def TJ6 : u_T := fun k => match k with
  | _ => ("", "", "", false)
def tyJ6 : Nat → FieldType := fun k => match k with
  | _ => .int
theorem nmJ6 : ∀ a, a < 0 → ∀ b, b < 0 → a ≠ b → (TJ6 a).2.1 ≠ (TJ6 b).2.1 := by decide +kernel
theorem tyJ6_ok : ∀ k, k < 0 → parseFieldDescriptor (TJ6 k).2.2.1 = some (tyJ6 k) := by decide +kernel
abbrev cJ6_bitCount_0f7a4 : ByteArray := prog_10_method_49_code
def yJ6_bitCount_0f7a4 : MethodName := ⟨RJ6, "bitCount", "(I)I"⟩
def RJ9 : String := "java/lang/Math"
def TJ9 : u_T := fun k => match k with
  | _ => ("", "", "", false)
def tyJ9 : Nat → FieldType := fun k => match k with
  | _ => .int
theorem nmJ9 : ∀ a, a < 0 → ∀ b, b < 0 → a ≠ b → (TJ9 a).2.1 ≠ (TJ9 b).2.1 := by decide +kernel
theorem tyJ9_ok : ∀ k, k < 0 → parseFieldDescriptor (TJ9 k).2.2.1 = some (tyJ9 k) := by decide +kernel
abbrev cJ9_abs_0f7a4 : ByteArray := prog_11_method_59_code
def yJ9_abs_0f7a4 : MethodName := ⟨RJ9, "abs", "(I)I"⟩
abbrev cJ9_min_7cf53 : ByteArray := prog_11_method_69_code
def yJ9_min_7cf53 : MethodName := ⟨RJ9, "min", "(II)I"⟩
def RJ10 : String := "java/lang/System"
def TJ10 : u_T := fun k => match k with
  | _ => ("", "", "", false)
def tyJ10 : Nat → FieldType := fun k => match k with
  | _ => .int
theorem nmJ10 : ∀ a, a < 0 → ∀ b, b < 0 → a ≠ b → (TJ10 a).2.1 ≠ (TJ10 b).2.1 := by decide +kernel
theorem tyJ10_ok : ∀ k, k < 0 → parseFieldDescriptor (TJ10 k).2.2.1 = some (tyJ10 k) := by decide +kernel
def RJ7 : String := "java/util/Arrays"
def TJ7 : u_T := fun k => match k with
  | _ => ("", "", "", false)
def tyJ7 : Nat → FieldType := fun k => match k with
  | _ => .int
theorem nmJ7 : ∀ a, a < 0 → ∀ b, b < 0 → a ≠ b → (TJ7 a).2.1 ≠ (TJ7 b).2.1 := by decide +kernel
theorem tyJ7_ok : ∀ k, k < 0 → parseFieldDescriptor (TJ7 k).2.2.1 = some (tyJ7 k) := by decide +kernel
abbrev cJ7_fill_d0a16 : ByteArray := prog_13_method_101_code
def yJ7_fill_d0a16 : MethodName := ⟨RJ7, "fill", "([JJ)V"⟩
abbrev cJ7_fill_53178 : ByteArray := prog_13_method_103_code
def yJ7_fill_53178 : MethodName := ⟨RJ7, "fill", "([II)V"⟩
def RL : String := "CoatsOnChairsLaw"
abbrev cL_law : ByteArray := code
def yL_law : MethodName := ⟨RL, "law", "([I)Z"⟩
abbrev vwCl : List vw_C := [(RX0, TX0, 20), (RX1, TX1, 5), (RX3, TX3, 9), (RX4, TX4, 3), (RX5, TX5, 2), (RX6, TX6, 12), (RX7, TX7, 30)]
def gT : List Cond := lw_tbl.filter goodWord
theorem gT_lw {args : Array Value} {s : State} (h : ∀ w ∈ lw_tbl, w.before args s = true) : ∀ w ∈ gT, w.before args s = true := fun w hw => h w (List.mem_filter.mp hw).1
theorem gT_mem {w : Cond} (i : Nat) (h : lw_tbl[i]? = some w) (g : goodWord w = true) : w ∈ gT := List.mem_filter.mpr ⟨List.mem_of_getElem? h, g⟩
theorem gT_good {y : MethodName} {b : ByteArray} {n : Nat} {r : Option FieldType} {big : List Cond} (hb : ∀ w ∈ gT, w ∈ big) (h : Cond.code y b n r ∈ gT) : GoodIn big (Cond.code y b n r :: gT) := by
  intro w hw
  rcases List.mem_cons.mp hw with rfl | hw
  · exact ⟨hb _ h, Or.inl rfl⟩
  · exact ⟨hb _ hw, good_of_word (List.mem_filter.mp hw).2⟩
theorem q0 : Cond.selects "CoatsOnChairs$Scan" ⟨"CoatsOnChairs$Scan", "readNumbers", "(I)Z"⟩ ⟨"CoatsOnChairs$Scan", "readNumbers", "(I)Z"⟩ ∈ gT := gT_mem 0 rfl rfl
theorem q1 : Cond.selects "CoatsOnChairs$Scan" ⟨"CoatsOnChairs$Scan", "readFigures", "()I"⟩ ⟨"CoatsOnChairs$Scan", "readFigures", "()I"⟩ ∈ gT := gT_mem 1 rfl rfl
theorem q2 : Cond.selects "CoatsOnChairs$Scan" ⟨"CoatsOnChairs$Scan", "put", "(ILCoatsOnChairs$Room;)Z"⟩ ⟨"CoatsOnChairs$Scan", "put", "(ILCoatsOnChairs$Room;)Z"⟩ ∈ gT := gT_mem 2 rfl rfl
theorem q3 : Cond.selects "CoatsOnChairs" ⟨"CoatsOnChairs", "isReader", "(I)Z"⟩ ⟨"CoatsOnChairs", "isReader", "(I)Z"⟩ ∈ gT := gT_mem 3 rfl rfl
theorem q4 : Cond.selects "CoatsOnChairs" ⟨"CoatsOnChairs", "isSeat", "(I)Z"⟩ ⟨"CoatsOnChairs", "isSeat", "(I)Z"⟩ ∈ gT := gT_mem 4 rfl rfl
theorem q5 : Cond.selects "CoatsOnChairs$Day" ⟨"CoatsOnChairs$Day", "comeBack", "(I)V"⟩ ⟨"CoatsOnChairs$Day", "comeBack", "(I)V"⟩ ∈ gT := gT_mem 5 rfl rfl
theorem q6 : Cond.selects "CoatsOnChairs$Day" ⟨"CoatsOnChairs$Day", "sitDown", "(II)V"⟩ ⟨"CoatsOnChairs$Day", "sitDown", "(II)V"⟩ ∈ gT := gT_mem 6 rfl rfl
theorem q7 : Cond.selects "CoatsOnChairs$Day" ⟨"CoatsOnChairs$Day", "freeHeld", "(I)V"⟩ ⟨"CoatsOnChairs$Day", "freeHeld", "(I)V"⟩ ∈ gT := gT_mem 7 rfl rfl
theorem q8 : Cond.selects "CoatsOnChairs$Day" ⟨"CoatsOnChairs$Day", "offFor", "(II)I"⟩ ⟨"CoatsOnChairs$Day", "offFor", "(II)I"⟩ ∈ gT := gT_mem 8 rfl rfl
theorem q9 : Cond.selects "CoatsOnChairs$Day" ⟨"CoatsOnChairs$Day", "seekSeats", "(I)V"⟩ ⟨"CoatsOnChairs$Day", "seekSeats", "(I)V"⟩ ∈ gT := gT_mem 9 rfl rfl
theorem q10 : Cond.selects "CoatsOnChairs$Day" ⟨"CoatsOnChairs$Day", "freeSeatFor", "(I)I"⟩ ⟨"CoatsOnChairs$Day", "freeSeatFor", "(I)I"⟩ ∈ gT := gT_mem 10 rfl rfl
theorem q11 : Cond.selects "CoatsOnChairs$Day" ⟨"CoatsOnChairs$Day", "daredSeatFor", "(II)I"⟩ ⟨"CoatsOnChairs$Day", "daredSeatFor", "(II)I"⟩ ∈ gT := gT_mem 11 rfl rfl
theorem q12 : Cond.selects "CoatsOnChairs$Day" ⟨"CoatsOnChairs$Day", "sitOn", "(I)V"⟩ ⟨"CoatsOnChairs$Day", "sitOn", "(I)V"⟩ ∈ gT := gT_mem 12 rfl rfl
theorem q13 : Cond.selects "CoatsOnChairs$Day" ⟨"CoatsOnChairs$Day", "countSeats", "(I)V"⟩ ⟨"CoatsOnChairs$Day", "countSeats", "(I)V"⟩ ∈ gT := gT_mem 13 rfl rfl
theorem q14 : Cond.selects "CoatsOnChairs" ⟨"CoatsOnChairs", "runWhole", "(I)V"⟩ ⟨"CoatsOnChairs", "runWhole", "(I)V"⟩ ∈ gT := gT_mem 14 rfl rfl
theorem q15 : Cond.selects "CoatsOnChairs" ⟨"CoatsOnChairs", "betters", "(II)Z"⟩ ⟨"CoatsOnChairs", "betters", "(II)Z"⟩ ∈ gT := gT_mem 15 rfl rfl
theorem q16 : Cond.selects "CoatsOnChairs$Game" ⟨"CoatsOnChairs$Game", "minutesIn", "(II)I"⟩ ⟨"CoatsOnChairs$Game", "minutesIn", "(II)I"⟩ ∈ gT := gT_mem 16 rfl rfl
theorem q17 : Cond.selects "CoatsOnChairs" ⟨"CoatsOnChairs", "shutOutByCards", "(II)I"⟩ ⟨"CoatsOnChairs", "shutOutByCards", "(II)I"⟩ ∈ gT := gT_mem 17 rfl rfl
theorem q18 : Cond.selects "CoatsOnChairs" ⟨"CoatsOnChairs", "shutOutByDraw", "(II)I"⟩ ⟨"CoatsOnChairs", "shutOutByDraw", "(II)I"⟩ ∈ gT := gT_mem 18 rfl rfl
theorem q19 : Cond.selects "CoatsOnChairsModel" ⟨"CoatsOnChairsModel", "begins", "()V"⟩ ⟨"CoatsOnChairsModel", "begins", "()V"⟩ ∈ gT := gT_mem 19 rfl rfl
theorem q20 : Cond.selects "CoatsOnChairsModel" ⟨"CoatsOnChairsModel", "takes", "()V"⟩ ⟨"CoatsOnChairsModel", "takes", "()V"⟩ ∈ gT := gT_mem 20 rfl rfl
theorem q21 : Cond.selects "CoatsOnChairsModel" ⟨"CoatsOnChairsModel", "isItem", "()Z"⟩ ⟨"CoatsOnChairsModel", "isItem", "()Z"⟩ ∈ gT := gT_mem 21 rfl rfl
theorem q22 : Cond.selects "CoatsOnChairsModel" ⟨"CoatsOnChairsModel", "number", "()I"⟩ ⟨"CoatsOnChairsModel", "number", "()I"⟩ ∈ gT := gT_mem 22 rfl rfl
theorem q23 : Cond.selects "CoatsOnChairsModel" ⟨"CoatsOnChairsModel", "isGood", "(I)Z"⟩ ⟨"CoatsOnChairsModel", "isGood", "(I)Z"⟩ ∈ gT := gT_mem 23 rfl rfl
theorem q24 : Cond.selects "CoatsOnChairsModel" ⟨"CoatsOnChairsModel", "isIn", "(III)Z"⟩ ⟨"CoatsOnChairsModel", "isIn", "(III)Z"⟩ ∈ gT := gT_mem 24 rfl rfl
theorem q25 : Cond.selects "CoatsOnChairsModel" ⟨"CoatsOnChairsModel", "isReader", "(I)Z"⟩ ⟨"CoatsOnChairsModel", "isReader", "(I)Z"⟩ ∈ gT := gT_mem 25 rfl rfl
theorem q26 : Cond.selects "CoatsOnChairsModel" ⟨"CoatsOnChairsModel", "of", "(II)I"⟩ ⟨"CoatsOnChairsModel", "of", "(II)I"⟩ ∈ gT := gT_mem 26 rfl rfl
theorem q27 : Cond.selects "CoatsOnChairsModel" ⟨"CoatsOnChairsModel", "goes", "(IIIII)V"⟩ ⟨"CoatsOnChairsModel", "goes", "(IIIII)V"⟩ ∈ gT := gT_mem 27 rfl rfl
theorem q28 : Cond.selects "CoatsOnChairsModel" ⟨"CoatsOnChairsModel", "run", "(IIIII)V"⟩ ⟨"CoatsOnChairsModel", "run", "(IIIII)V"⟩ ∈ gT := gT_mem 28 rfl rfl
theorem q29 : Cond.selects "CoatsOnChairsModel" ⟨"CoatsOnChairsModel", "minute", "(IIIII)V"⟩ ⟨"CoatsOnChairsModel", "minute", "(IIIII)V"⟩ ∈ gT := gT_mem 29 rfl rfl
theorem q30 : Cond.selects "CoatsOnChairsModel" ⟨"CoatsOnChairsModel", "comesBack", "(II)V"⟩ ⟨"CoatsOnChairsModel", "comesBack", "(II)V"⟩ ∈ gT := gT_mem 30 rfl rfl
theorem q31 : Cond.selects "CoatsOnChairsModel" ⟨"CoatsOnChairsModel", "frees", "(IIII)V"⟩ ⟨"CoatsOnChairsModel", "frees", "(IIII)V"⟩ ∈ gT := gT_mem 31 rfl rfl
theorem q32 : Cond.selects "CoatsOnChairsModel" ⟨"CoatsOnChairsModel", "seeks", "(III)V"⟩ ⟨"CoatsOnChairsModel", "seeks", "(III)V"⟩ ∈ gT := gT_mem 32 rfl rfl
theorem q33 : Cond.selects "CoatsOnChairsModel" ⟨"CoatsOnChairsModel", "takesSeat", "(III)I"⟩ ⟨"CoatsOnChairsModel", "takesSeat", "(III)I"⟩ ∈ gT := gT_mem 33 rfl rfl
theorem q34 : Cond.selects "CoatsOnChairsModel" ⟨"CoatsOnChairsModel", "sitsOn", "(IIII)V"⟩ ⟨"CoatsOnChairsModel", "sitsOn", "(IIII)V"⟩ ∈ gT := gT_mem 34 rfl rfl
theorem q35 : Cond.selects "CoatsOnChairsModel" ⟨"CoatsOnChairsModel", "whole", "(I)V"⟩ ⟨"CoatsOnChairsModel", "whole", "(I)V"⟩ ∈ gT := gT_mem 35 rfl rfl
theorem q36 : Cond.selects "CoatsOnChairsModel" ⟨"CoatsOnChairsModel", "counted", "(I)I"⟩ ⟨"CoatsOnChairsModel", "counted", "(I)I"⟩ ∈ gT := gT_mem 36 rfl rfl
theorem q37 : Cond.selects "CoatsOnChairsModel" ⟨"CoatsOnChairsModel", "lowest", "(JJ)V"⟩ ⟨"CoatsOnChairsModel", "lowest", "(JJ)V"⟩ ∈ gT := gT_mem 37 rfl rfl
theorem q38 : Cond.selects "CoatsOnChairsModel" ⟨"CoatsOnChairsModel", "drawnDay", "(II)I"⟩ ⟨"CoatsOnChairsModel", "drawnDay", "(II)I"⟩ ∈ gT := gT_mem 38 rfl rfl
set_option maxRecDepth 100000 in
theorem q39 : (Jvm.Cond.initialized "CoatsOnChairsLaw") ∈ gT := gT_mem 39 rfl rfl
set_option maxRecDepth 100000 in
theorem q40 : (Jvm.Cond.initialized "CoatsOnChairs") ∈ gT := gT_mem 40 rfl rfl
set_option maxRecDepth 100000 in
theorem q41 : (Jvm.Cond.initialized "CoatsOnChairs$Text") ∈ gT := gT_mem 41 rfl rfl
set_option maxRecDepth 100000 in
theorem q42 : (Jvm.Cond.initialized "CoatsOnChairs$Scan") ∈ gT := gT_mem 42 rfl rfl
set_option maxRecDepth 100000 in
theorem q43 : (Jvm.Cond.initialized "CoatsOnChairs$Room") ∈ gT := gT_mem 43 rfl rfl
set_option maxRecDepth 100000 in
theorem q44 : (Jvm.Cond.initialized "java/lang/System") ∈ gT := gT_mem 44 rfl rfl
set_option maxRecDepth 100000 in
theorem q45 : (Jvm.Cond.initialized "CoatsOnChairs$Day") ∈ gT := gT_mem 45 rfl rfl
set_option maxRecDepth 100000 in
theorem q46 : (Jvm.Cond.initialized "CoatsOnChairs$Game") ∈ gT := gT_mem 46 rfl rfl
set_option maxRecDepth 100000 in
theorem q47 : (Jvm.Cond.initialized "CoatsOnChairsModel") ∈ gT := gT_mem 47 rfl rfl
set_option maxRecDepth 100000 in
theorem q48 : (Jvm.Cond.initialized "java/lang/Math") ∈ gT := gT_mem 48 rfl rfl
set_option maxRecDepth 100000 in
theorem q49 : (Jvm.Cond.initialized "java/util/Arrays") ∈ gT := gT_mem 49 rfl rfl
set_option maxRecDepth 100000 in
theorem q50 : (Jvm.Cond.initialized "java/lang/Integer") ∈ gT := gT_mem 50 rfl rfl
set_option maxRecDepth 100000 in
theorem q51 : (Jvm.Cond.initialized "CoatsOnChairs$Odds") ∈ gT := gT_mem 51 rfl rfl
set_option maxRecDepth 100000 in
theorem q52 : (Jvm.Cond.classLink "CoatsOnChairsLaw" (7 : Nat) "CoatsOnChairs") ∈ gT := gT_mem 52 rfl rfl
set_option maxRecDepth 100000 in
theorem q53 : (Jvm.Cond.instantiable "CoatsOnChairs" (12 : Nat)) ∈ gT := gT_mem 53 rfl rfl
set_option maxRecDepth 100000 in
theorem q54 : (Jvm.Cond.methodLink "CoatsOnChairsLaw" (9 : Nat) ({ cls := "CoatsOnChairs", name := "<init>", desc := "()V" } : Jvm.MethodName)) ∈ gT := gT_mem 54 rfl rfl
set_option maxRecDepth 100000 in
theorem q55 : (Jvm.Cond.instanceMethod ({ cls := "CoatsOnChairs", name := "<init>", desc := "()V" } : Jvm.MethodName)) ∈ gT := gT_mem 55 rfl rfl
set_option maxRecDepth 100000 in
theorem q56 : (Jvm.Cond.code ({ cls := "CoatsOnChairs", name := "<init>", desc := "()V" } : Jvm.MethodName) prog_1_method_1_code (1 : Nat) (Option.none : Option Jvm.ClassFile.FieldType)) ∈ gT := gT_mem 56 rfl rfl
set_option maxRecDepth 100000 in
theorem q57 : (Jvm.Cond.methodLink "CoatsOnChairs" (1 : Nat) ({ cls := "java/lang/Object", name := "<init>", desc := "()V" } : Jvm.MethodName)) ∈ gT := gT_mem 57 rfl rfl
set_option maxRecDepth 100000 in
theorem q58 : (Jvm.Cond.instanceMethod ({ cls := "java/lang/Object", name := "<init>", desc := "()V" } : Jvm.MethodName)) ∈ gT := gT_mem 58 rfl rfl
set_option maxRecDepth 100000 in
theorem q59 : (Jvm.Cond.code ({ cls := "java/lang/Object", name := "<init>", desc := "()V" } : Jvm.MethodName) object_method_1_code (1 : Nat) (Option.none : Option Jvm.ClassFile.FieldType)) ∈ gT := gT_mem 59 rfl rfl
set_option maxRecDepth 100000 in
theorem q60 : (Jvm.Cond.classLink "CoatsOnChairs" (7 : Nat) "CoatsOnChairs$Text") ∈ gT := gT_mem 60 rfl rfl
set_option maxRecDepth 100000 in
theorem q61 : (Jvm.Cond.instantiable "CoatsOnChairs$Text" (2 : Nat)) ∈ gT := gT_mem 61 rfl rfl
set_option maxRecDepth 100000 in
theorem q62 : (Jvm.Cond.methodLink "CoatsOnChairs" (9 : Nat) ({ cls := "CoatsOnChairs$Text", name := "<init>", desc := "()V" } : Jvm.MethodName)) ∈ gT := gT_mem 62 rfl rfl
set_option maxRecDepth 100000 in
theorem q63 : (Jvm.Cond.instanceMethod ({ cls := "CoatsOnChairs$Text", name := "<init>", desc := "()V" } : Jvm.MethodName)) ∈ gT := gT_mem 63 rfl rfl
set_option maxRecDepth 100000 in
theorem q64 : (Jvm.Cond.code ({ cls := "CoatsOnChairs$Text", name := "<init>", desc := "()V" } : Jvm.MethodName) prog_7_method_1_code (1 : Nat) (Option.none : Option Jvm.ClassFile.FieldType)) ∈ gT := gT_mem 64 rfl rfl
set_option maxRecDepth 100000 in
theorem q65 : (Jvm.Cond.methodLink "CoatsOnChairs$Text" (3 : Nat) ({ cls := "java/lang/Object", name := "<init>", desc := "()V" } : Jvm.MethodName)) ∈ gT := gT_mem 65 rfl rfl
set_option maxRecDepth 100000 in
theorem q66 : (Jvm.Cond.fieldLink "CoatsOnChairs$Text" (9 : Nat) "CoatsOnChairs$Text" "bytes" "[B") ∈ gT := gT_mem 66 rfl rfl
set_option maxRecDepth 100000 in
theorem q67 : (Jvm.Cond.fieldLink "CoatsOnChairs$Text" (15 : Nat) "CoatsOnChairs$Text" "length" "I") ∈ gT := gT_mem 67 rfl rfl
set_option maxRecDepth 100000 in
theorem q68 : (Jvm.Cond.laysFinal "CoatsOnChairs$Text" "CoatsOnChairs$Text" "bytes" "[B") ∈ gT := gT_mem 68 rfl rfl
set_option maxRecDepth 100000 in
theorem q69 : (Jvm.Cond.soleField "CoatsOnChairs$Text" "bytes") ∈ gT := gT_mem 69 rfl rfl
set_option maxRecDepth 100000 in
theorem q70 : (Jvm.Cond.lays "CoatsOnChairs$Text" "CoatsOnChairs$Text" "length" "I") ∈ gT := gT_mem 70 rfl rfl
set_option maxRecDepth 100000 in
theorem q71 : (Jvm.Cond.soleField "CoatsOnChairs$Text" "length") ∈ gT := gT_mem 71 rfl rfl
set_option maxRecDepth 100000 in
theorem q72 : (Jvm.Cond.superclass "CoatsOnChairs$Text" "java/lang/Object") ∈ gT := gT_mem 72 rfl rfl
set_option maxRecDepth 100000 in
theorem q73 : (Jvm.Cond.arrayClass Jvm.ClassFile.FieldType.byte) ∈ gT := gT_mem 73 rfl rfl
set_option maxRecDepth 100000 in
theorem q74 : (Jvm.Cond.classLink "CoatsOnChairs" (16 : Nat) "CoatsOnChairs$Scan") ∈ gT := gT_mem 74 rfl rfl
set_option maxRecDepth 100000 in
theorem q75 : (Jvm.Cond.instantiable "CoatsOnChairs$Scan" (3 : Nat)) ∈ gT := gT_mem 75 rfl rfl
set_option maxRecDepth 100000 in
theorem q76 : (Jvm.Cond.methodLink "CoatsOnChairs" (18 : Nat) ({ cls := "CoatsOnChairs$Scan", name := "<init>", desc := "(LCoatsOnChairs$Text;)V" } : Jvm.MethodName)) ∈ gT := gT_mem 76 rfl rfl
set_option maxRecDepth 100000 in
theorem q77 : (Jvm.Cond.instanceMethod ({ cls := "CoatsOnChairs$Scan", name := "<init>", desc := "(LCoatsOnChairs$Text;)V" } : Jvm.MethodName)) ∈ gT := gT_mem 77 rfl rfl
set_option maxRecDepth 100000 in
theorem q78 : (Jvm.Cond.code ({ cls := "CoatsOnChairs$Scan", name := "<init>", desc := "(LCoatsOnChairs$Text;)V" } : Jvm.MethodName) prog_6_method_1_code (2 : Nat) (Option.none : Option Jvm.ClassFile.FieldType)) ∈ gT := gT_mem 78 rfl rfl
set_option maxRecDepth 100000 in
theorem q79 : (Jvm.Cond.methodLink "CoatsOnChairs$Scan" (3 : Nat) ({ cls := "java/lang/Object", name := "<init>", desc := "()V" } : Jvm.MethodName)) ∈ gT := gT_mem 79 rfl rfl
set_option maxRecDepth 100000 in
theorem q80 : (Jvm.Cond.fieldLink "CoatsOnChairs$Scan" (9 : Nat) "CoatsOnChairs$Scan" "text" "LCoatsOnChairs$Text;") ∈ gT := gT_mem 80 rfl rfl
set_option maxRecDepth 100000 in
theorem q81 : (Jvm.Cond.fieldLink "CoatsOnChairs$Scan" (15 : Nat) "CoatsOnChairs$Scan" "numbers" "[I") ∈ gT := gT_mem 81 rfl rfl
set_option maxRecDepth 100000 in
theorem q82 : (Jvm.Cond.fieldLink "CoatsOnChairs$Scan" (19 : Nat) "CoatsOnChairs$Scan" "at" "I") ∈ gT := gT_mem 82 rfl rfl
set_option maxRecDepth 100000 in
theorem q83 : (Jvm.Cond.laysFinal "CoatsOnChairs$Scan" "CoatsOnChairs$Scan" "text" "LCoatsOnChairs$Text;") ∈ gT := gT_mem 83 rfl rfl
set_option maxRecDepth 100000 in
theorem q84 : (Jvm.Cond.soleField "CoatsOnChairs$Scan" "text") ∈ gT := gT_mem 84 rfl rfl
set_option maxRecDepth 100000 in
theorem q85 : (Jvm.Cond.laysFinal "CoatsOnChairs$Scan" "CoatsOnChairs$Scan" "numbers" "[I") ∈ gT := gT_mem 85 rfl rfl
set_option maxRecDepth 100000 in
theorem q86 : (Jvm.Cond.soleField "CoatsOnChairs$Scan" "numbers") ∈ gT := gT_mem 86 rfl rfl
set_option maxRecDepth 100000 in
theorem q87 : (Jvm.Cond.lays "CoatsOnChairs$Scan" "CoatsOnChairs$Scan" "at" "I") ∈ gT := gT_mem 87 rfl rfl
set_option maxRecDepth 100000 in
theorem q88 : (Jvm.Cond.soleField "CoatsOnChairs$Scan" "at") ∈ gT := gT_mem 88 rfl rfl
set_option maxRecDepth 100000 in
theorem q89 : (Jvm.Cond.superclass "CoatsOnChairs$Scan" "java/lang/Object") ∈ gT := gT_mem 89 rfl rfl
set_option maxRecDepth 100000 in
theorem q90 : (Jvm.Cond.arrayClass Jvm.ClassFile.FieldType.int) ∈ gT := gT_mem 90 rfl rfl
set_option maxRecDepth 100000 in
theorem q91 : (Jvm.Cond.classLink "CoatsOnChairs" (25 : Nat) "CoatsOnChairs$Room") ∈ gT := gT_mem 91 rfl rfl
set_option maxRecDepth 100000 in
theorem q92 : (Jvm.Cond.instantiable "CoatsOnChairs$Room" (9 : Nat)) ∈ gT := gT_mem 92 rfl rfl
set_option maxRecDepth 100000 in
theorem q93 : (Jvm.Cond.methodLink "CoatsOnChairs" (27 : Nat) ({ cls := "CoatsOnChairs$Room", name := "<init>", desc := "()V" } : Jvm.MethodName)) ∈ gT := gT_mem 93 rfl rfl
set_option maxRecDepth 100000 in
theorem q94 : (Jvm.Cond.instanceMethod ({ cls := "CoatsOnChairs$Room", name := "<init>", desc := "()V" } : Jvm.MethodName)) ∈ gT := gT_mem 94 rfl rfl
set_option maxRecDepth 100000 in
theorem q95 : (Jvm.Cond.code ({ cls := "CoatsOnChairs$Room", name := "<init>", desc := "()V" } : Jvm.MethodName) prog_5_method_1_code (1 : Nat) (Option.none : Option Jvm.ClassFile.FieldType)) ∈ gT := gT_mem 95 rfl rfl
set_option maxRecDepth 100000 in
theorem q96 : (Jvm.Cond.methodLink "CoatsOnChairs$Room" (3 : Nat) ({ cls := "java/lang/Object", name := "<init>", desc := "()V" } : Jvm.MethodName)) ∈ gT := gT_mem 96 rfl rfl
set_option maxRecDepth 100000 in
theorem q97 : (Jvm.Cond.methodLink "CoatsOnChairs$Room" (18 : Nat) ({ cls := "CoatsOnChairs$Room", name := "clear", desc := "()V" } : Jvm.MethodName)) ∈ gT := gT_mem 97 rfl rfl
set_option maxRecDepth 100000 in
theorem q98 : (Jvm.Cond.instanceMethod ({ cls := "CoatsOnChairs$Room", name := "clear", desc := "()V" } : Jvm.MethodName)) ∈ gT := gT_mem 98 rfl rfl
set_option maxRecDepth 100000 in
theorem q99 : (Jvm.Cond.selects "CoatsOnChairs$Room" ({ cls := "CoatsOnChairs$Room", name := "clear", desc := "()V" } : Jvm.MethodName) ({ cls := "CoatsOnChairs$Room", name := "clear", desc := "()V" } : Jvm.MethodName)) ∈ gT := gT_mem 99 rfl rfl
set_option maxRecDepth 100000 in
theorem q100 : (Jvm.Cond.code ({ cls := "CoatsOnChairs$Room", name := "clear", desc := "()V" } : Jvm.MethodName) prog_5_method_2_code (1 : Nat) (Option.none : Option Jvm.ClassFile.FieldType)) ∈ gT := gT_mem 100 rfl rfl
set_option maxRecDepth 100000 in
theorem q101 : (Jvm.Cond.fieldLink "CoatsOnChairs$Room" (9 : Nat) "CoatsOnChairs$Room" "kinds" "[I") ∈ gT := gT_mem 101 rfl rfl
set_option maxRecDepth 100000 in
theorem q102 : (Jvm.Cond.fieldLink "CoatsOnChairs$Room" (15 : Nat) "CoatsOnChairs$Room" "numbers" "[I") ∈ gT := gT_mem 102 rfl rfl
set_option maxRecDepth 100000 in
theorem q103 : (Jvm.Cond.fieldLink "CoatsOnChairs$Room" (21 : Nat) "CoatsOnChairs$Room" "seats" "I") ∈ gT := gT_mem 103 rfl rfl
set_option maxRecDepth 100000 in
theorem q104 : (Jvm.Cond.fieldLink "CoatsOnChairs$Room" (25 : Nat) "CoatsOnChairs$Room" "readers" "I") ∈ gT := gT_mem 104 rfl rfl
set_option maxRecDepth 100000 in
theorem q105 : (Jvm.Cond.fieldLink "CoatsOnChairs$Room" (28 : Nat) "CoatsOnChairs$Room" "cardMinutes" "I") ∈ gT := gT_mem 105 rfl rfl
set_option maxRecDepth 100000 in
theorem q106 : (Jvm.Cond.fieldLink "CoatsOnChairs$Room" (31 : Nat) "CoatsOnChairs$Room" "porterMinutes" "I") ∈ gT := gT_mem 106 rfl rfl
set_option maxRecDepth 100000 in
theorem q107 : (Jvm.Cond.fieldLink "CoatsOnChairs$Room" (34 : Nat) "CoatsOnChairs$Room" "lampMinutes" "I") ∈ gT := gT_mem 107 rfl rfl
set_option maxRecDepth 100000 in
theorem q108 : (Jvm.Cond.fieldLink "CoatsOnChairs$Room" (37 : Nat) "CoatsOnChairs$Room" "seekMinutes" "I") ∈ gT := gT_mem 108 rfl rfl
set_option maxRecDepth 100000 in
theorem q109 : (Jvm.Cond.fieldLink "CoatsOnChairs$Room" (40 : Nat) "CoatsOnChairs$Room" "laterMinutes" "I") ∈ gT := gT_mem 109 rfl rfl
set_option maxRecDepth 100000 in
theorem q110 : (Jvm.Cond.laysFinal "CoatsOnChairs$Room" "CoatsOnChairs$Room" "kinds" "[I") ∈ gT := gT_mem 110 rfl rfl
set_option maxRecDepth 100000 in
theorem q111 : (Jvm.Cond.soleField "CoatsOnChairs$Room" "kinds") ∈ gT := gT_mem 111 rfl rfl
set_option maxRecDepth 100000 in
theorem q112 : (Jvm.Cond.laysFinal "CoatsOnChairs$Room" "CoatsOnChairs$Room" "numbers" "[I") ∈ gT := gT_mem 112 rfl rfl
set_option maxRecDepth 100000 in
theorem q113 : (Jvm.Cond.soleField "CoatsOnChairs$Room" "numbers") ∈ gT := gT_mem 113 rfl rfl
set_option maxRecDepth 100000 in
theorem q114 : (Jvm.Cond.lays "CoatsOnChairs$Room" "CoatsOnChairs$Room" "seats" "I") ∈ gT := gT_mem 114 rfl rfl
set_option maxRecDepth 100000 in
theorem q115 : (Jvm.Cond.soleField "CoatsOnChairs$Room" "seats") ∈ gT := gT_mem 115 rfl rfl
set_option maxRecDepth 100000 in
theorem q116 : (Jvm.Cond.lays "CoatsOnChairs$Room" "CoatsOnChairs$Room" "readers" "I") ∈ gT := gT_mem 116 rfl rfl
set_option maxRecDepth 100000 in
theorem q117 : (Jvm.Cond.soleField "CoatsOnChairs$Room" "readers") ∈ gT := gT_mem 117 rfl rfl
set_option maxRecDepth 100000 in
theorem q118 : (Jvm.Cond.lays "CoatsOnChairs$Room" "CoatsOnChairs$Room" "cardMinutes" "I") ∈ gT := gT_mem 118 rfl rfl
set_option maxRecDepth 100000 in
theorem q119 : (Jvm.Cond.soleField "CoatsOnChairs$Room" "cardMinutes") ∈ gT := gT_mem 119 rfl rfl
set_option maxRecDepth 100000 in
theorem q120 : (Jvm.Cond.lays "CoatsOnChairs$Room" "CoatsOnChairs$Room" "porterMinutes" "I") ∈ gT := gT_mem 120 rfl rfl
set_option maxRecDepth 100000 in
theorem q121 : (Jvm.Cond.soleField "CoatsOnChairs$Room" "porterMinutes") ∈ gT := gT_mem 121 rfl rfl
set_option maxRecDepth 100000 in
theorem q122 : (Jvm.Cond.lays "CoatsOnChairs$Room" "CoatsOnChairs$Room" "lampMinutes" "I") ∈ gT := gT_mem 122 rfl rfl
set_option maxRecDepth 100000 in
theorem q123 : (Jvm.Cond.soleField "CoatsOnChairs$Room" "lampMinutes") ∈ gT := gT_mem 123 rfl rfl
set_option maxRecDepth 100000 in
theorem q124 : (Jvm.Cond.lays "CoatsOnChairs$Room" "CoatsOnChairs$Room" "seekMinutes" "I") ∈ gT := gT_mem 124 rfl rfl
set_option maxRecDepth 100000 in
theorem q125 : (Jvm.Cond.soleField "CoatsOnChairs$Room" "seekMinutes") ∈ gT := gT_mem 125 rfl rfl
set_option maxRecDepth 100000 in
theorem q126 : (Jvm.Cond.lays "CoatsOnChairs$Room" "CoatsOnChairs$Room" "laterMinutes" "I") ∈ gT := gT_mem 126 rfl rfl
set_option maxRecDepth 100000 in
theorem q127 : (Jvm.Cond.soleField "CoatsOnChairs$Room" "laterMinutes") ∈ gT := gT_mem 127 rfl rfl
set_option maxRecDepth 100000 in
theorem q128 : (Jvm.Cond.superclass "CoatsOnChairs$Room" "java/lang/Object") ∈ gT := gT_mem 128 rfl rfl
set_option maxRecDepth 100000 in
theorem q129 : (Jvm.Cond.methodLink "CoatsOnChairs" (32 : Nat) ({ cls := "CoatsOnChairs$Room", name := "addSeat", desc := "(I)Z" } : Jvm.MethodName)) ∈ gT := gT_mem 129 rfl rfl
set_option maxRecDepth 100000 in
theorem q130 : (Jvm.Cond.instanceMethod ({ cls := "CoatsOnChairs$Room", name := "addSeat", desc := "(I)Z" } : Jvm.MethodName)) ∈ gT := gT_mem 130 rfl rfl
set_option maxRecDepth 100000 in
theorem q131 : (Jvm.Cond.selects "CoatsOnChairs$Room" ({ cls := "CoatsOnChairs$Room", name := "addSeat", desc := "(I)Z" } : Jvm.MethodName) ({ cls := "CoatsOnChairs$Room", name := "addSeat", desc := "(I)Z" } : Jvm.MethodName)) ∈ gT := gT_mem 131 rfl rfl
set_option maxRecDepth 100000 in
theorem q132 : (Jvm.Cond.code ({ cls := "CoatsOnChairs$Room", name := "addSeat", desc := "(I)Z" } : Jvm.MethodName) prog_5_method_3_code (2 : Nat) (Option.some Jvm.ClassFile.FieldType.boolean)) ∈ gT := gT_mem 132 rfl rfl
set_option maxRecDepth 100000 in
theorem q133 : (Jvm.Cond.fieldLink "CoatsOnChairs" (36 : Nat) "CoatsOnChairs" "FIRST_READER" "[I") ∈ gT := gT_mem 133 rfl rfl
set_option maxRecDepth 100000 in
theorem q135 : (Jvm.Cond.methodLink "CoatsOnChairs" (40 : Nat) ({ cls := "CoatsOnChairs$Room", name := "addReader", desc := "([I)Z" } : Jvm.MethodName)) ∈ gT := gT_mem 135 rfl rfl
set_option maxRecDepth 100000 in
theorem q136 : (Jvm.Cond.instanceMethod ({ cls := "CoatsOnChairs$Room", name := "addReader", desc := "([I)Z" } : Jvm.MethodName)) ∈ gT := gT_mem 136 rfl rfl
set_option maxRecDepth 100000 in
theorem q137 : (Jvm.Cond.selects "CoatsOnChairs$Room" ({ cls := "CoatsOnChairs$Room", name := "addReader", desc := "([I)Z" } : Jvm.MethodName) ({ cls := "CoatsOnChairs$Room", name := "addReader", desc := "([I)Z" } : Jvm.MethodName)) ∈ gT := gT_mem 137 rfl rfl
set_option maxRecDepth 100000 in
theorem q138 : (Jvm.Cond.code ({ cls := "CoatsOnChairs$Room", name := "addReader", desc := "([I)Z" } : Jvm.MethodName) prog_5_method_4_code (2 : Nat) (Option.some Jvm.ClassFile.FieldType.boolean)) ∈ gT := gT_mem 138 rfl rfl
set_option maxRecDepth 100000 in
theorem q139 : (Jvm.Cond.methodLink "CoatsOnChairs$Room" (43 : Nat) ({ cls := "java/lang/System", name := "arraycopy", desc := "(Ljava/lang/Object;ILjava/lang/Object;II)V" } : Jvm.MethodName)) ∈ gT := gT_mem 139 rfl rfl
set_option maxRecDepth 100000 in
theorem q140 : (Jvm.Cond.static ({ cls := "java/lang/System", name := "arraycopy", desc := "(Ljava/lang/Object;ILjava/lang/Object;II)V" } : Jvm.MethodName)) ∈ gT := gT_mem 140 rfl rfl
set_option maxRecDepth 100000 in
theorem q141 : (Jvm.Cond.native ({ cls := "java/lang/System", name := "arraycopy", desc := "(Ljava/lang/Object;ILjava/lang/Object;II)V" } : Jvm.MethodName)) ∈ gT := gT_mem 141 rfl rfl
set_option maxRecDepth 100000 in
theorem q142 : (Jvm.Cond.classLink "CoatsOnChairs" (47 : Nat) "CoatsOnChairs$Day") ∈ gT := gT_mem 142 rfl rfl
set_option maxRecDepth 100000 in
theorem q143 : (Jvm.Cond.instantiable "CoatsOnChairs$Day" (20 : Nat)) ∈ gT := gT_mem 143 rfl rfl
set_option maxRecDepth 100000 in
theorem q144 : (Jvm.Cond.methodLink "CoatsOnChairs" (49 : Nat) ({ cls := "CoatsOnChairs$Day", name := "<init>", desc := "(LCoatsOnChairs$Room;)V" } : Jvm.MethodName)) ∈ gT := gT_mem 144 rfl rfl
set_option maxRecDepth 100000 in
theorem q145 : (Jvm.Cond.instanceMethod ({ cls := "CoatsOnChairs$Day", name := "<init>", desc := "(LCoatsOnChairs$Room;)V" } : Jvm.MethodName)) ∈ gT := gT_mem 145 rfl rfl
set_option maxRecDepth 100000 in
theorem q146 : (Jvm.Cond.code ({ cls := "CoatsOnChairs$Day", name := "<init>", desc := "(LCoatsOnChairs$Room;)V" } : Jvm.MethodName) prog_2_method_1_code (2 : Nat) (Option.none : Option Jvm.ClassFile.FieldType)) ∈ gT := gT_mem 146 rfl rfl
set_option maxRecDepth 100000 in
theorem q147 : (Jvm.Cond.methodLink "CoatsOnChairs$Day" (3 : Nat) ({ cls := "java/lang/Object", name := "<init>", desc := "()V" } : Jvm.MethodName)) ∈ gT := gT_mem 147 rfl rfl
set_option maxRecDepth 100000 in
theorem q148 : (Jvm.Cond.fieldLink "CoatsOnChairs$Day" (9 : Nat) "CoatsOnChairs$Day" "states" "[I") ∈ gT := gT_mem 148 rfl rfl
set_option maxRecDepth 100000 in
theorem q149 : (Jvm.Cond.fieldLink "CoatsOnChairs$Day" (15 : Nat) "CoatsOnChairs$Day" "places" "[I") ∈ gT := gT_mem 149 rfl rfl
set_option maxRecDepth 100000 in
theorem q150 : (Jvm.Cond.fieldLink "CoatsOnChairs$Day" (18 : Nat) "CoatsOnChairs$Day" "since" "[I") ∈ gT := gT_mem 150 rfl rfl
set_option maxRecDepth 100000 in
theorem q151 : (Jvm.Cond.fieldLink "CoatsOnChairs$Day" (21 : Nat) "CoatsOnChairs$Day" "minutesSat" "[I") ∈ gT := gT_mem 151 rfl rfl
set_option maxRecDepth 100000 in
theorem q152 : (Jvm.Cond.fieldLink "CoatsOnChairs$Day" (24 : Nat) "CoatsOnChairs$Day" "arrivals" "[I") ∈ gT := gT_mem 152 rfl rfl
set_option maxRecDepth 100000 in
theorem q153 : (Jvm.Cond.fieldLink "CoatsOnChairs$Day" (27 : Nat) "CoatsOnChairs$Day" "sitters" "[I") ∈ gT := gT_mem 153 rfl rfl
set_option maxRecDepth 100000 in
theorem q154 : (Jvm.Cond.fieldLink "CoatsOnChairs$Day" (30 : Nat) "CoatsOnChairs$Day" "seatHolders" "[I") ∈ gT := gT_mem 154 rfl rfl
set_option maxRecDepth 100000 in
theorem q155 : (Jvm.Cond.fieldLink "CoatsOnChairs$Day" (33 : Nat) "CoatsOnChairs$Day" "sitting" "[I") ∈ gT := gT_mem 155 rfl rfl
set_option maxRecDepth 100000 in
theorem q156 : (Jvm.Cond.fieldLink "CoatsOnChairs$Day" (36 : Nat) "CoatsOnChairs$Day" "room" "LCoatsOnChairs$Room;") ∈ gT := gT_mem 156 rfl rfl
set_option maxRecDepth 100000 in
theorem q157 : (Jvm.Cond.fieldLink "CoatsOnChairs$Day" (52 : Nat) "CoatsOnChairs$Day" "readers" "I") ∈ gT := gT_mem 157 rfl rfl
set_option maxRecDepth 100000 in
theorem q158 : (Jvm.Cond.fieldLink "CoatsOnChairs$Day" (59 : Nat) "CoatsOnChairs$Day" "seats" "I") ∈ gT := gT_mem 158 rfl rfl
set_option maxRecDepth 100000 in
theorem q159 : (Jvm.Cond.fieldLink "CoatsOnChairs$Day" (62 : Nat) "CoatsOnChairs$Day" "rule" "I") ∈ gT := gT_mem 159 rfl rfl
set_option maxRecDepth 100000 in
theorem q160 : (Jvm.Cond.fieldLink "CoatsOnChairs$Day" (65 : Nat) "CoatsOnChairs$Day" "holders" "I") ∈ gT := gT_mem 160 rfl rfl
set_option maxRecDepth 100000 in
theorem q161 : (Jvm.Cond.fieldLink "CoatsOnChairs$Day" (102 : Nat) "CoatsOnChairs$Day" "cardMinutes" "I") ∈ gT := gT_mem 161 rfl rfl
set_option maxRecDepth 100000 in
theorem q162 : (Jvm.Cond.fieldLink "CoatsOnChairs$Day" (104 : Nat) "CoatsOnChairs$Day" "porterMinutes" "I") ∈ gT := gT_mem 162 rfl rfl
set_option maxRecDepth 100000 in
theorem q163 : (Jvm.Cond.fieldLink "CoatsOnChairs$Day" (87 : Nat) "CoatsOnChairs$Day" "ran" "I") ∈ gT := gT_mem 163 rfl rfl
set_option maxRecDepth 100000 in
theorem q164 : (Jvm.Cond.fieldLink "CoatsOnChairs$Day" (90 : Nat) "CoatsOnChairs$Day" "left" "I") ∈ gT := gT_mem 164 rfl rfl
set_option maxRecDepth 100000 in
theorem q165 : (Jvm.Cond.fieldLink "CoatsOnChairs$Day" (93 : Nat) "CoatsOnChairs$Day" "empty" "I") ∈ gT := gT_mem 165 rfl rfl
set_option maxRecDepth 100000 in
theorem q166 : (Jvm.Cond.fieldLink "CoatsOnChairs$Day" (96 : Nat) "CoatsOnChairs$Day" "shutOut" "I") ∈ gT := gT_mem 166 rfl rfl
set_option maxRecDepth 100000 in
theorem q167 : (Jvm.Cond.fieldLink "CoatsOnChairs$Day" (99 : Nat) "CoatsOnChairs$Day" "thrownOut" "I") ∈ gT := gT_mem 167 rfl rfl
set_option maxRecDepth 100000 in
theorem q168 : (Jvm.Cond.laysFinal "CoatsOnChairs$Day" "CoatsOnChairs$Day" "states" "[I") ∈ gT := gT_mem 168 rfl rfl
set_option maxRecDepth 100000 in
theorem q169 : (Jvm.Cond.soleField "CoatsOnChairs$Day" "states") ∈ gT := gT_mem 169 rfl rfl
set_option maxRecDepth 100000 in
theorem q170 : (Jvm.Cond.laysFinal "CoatsOnChairs$Day" "CoatsOnChairs$Day" "places" "[I") ∈ gT := gT_mem 170 rfl rfl
set_option maxRecDepth 100000 in
theorem q171 : (Jvm.Cond.soleField "CoatsOnChairs$Day" "places") ∈ gT := gT_mem 171 rfl rfl
set_option maxRecDepth 100000 in
theorem q172 : (Jvm.Cond.laysFinal "CoatsOnChairs$Day" "CoatsOnChairs$Day" "since" "[I") ∈ gT := gT_mem 172 rfl rfl
set_option maxRecDepth 100000 in
theorem q173 : (Jvm.Cond.soleField "CoatsOnChairs$Day" "since") ∈ gT := gT_mem 173 rfl rfl
set_option maxRecDepth 100000 in
theorem q174 : (Jvm.Cond.laysFinal "CoatsOnChairs$Day" "CoatsOnChairs$Day" "minutesSat" "[I") ∈ gT := gT_mem 174 rfl rfl
set_option maxRecDepth 100000 in
theorem q175 : (Jvm.Cond.soleField "CoatsOnChairs$Day" "minutesSat") ∈ gT := gT_mem 175 rfl rfl
set_option maxRecDepth 100000 in
theorem q176 : (Jvm.Cond.laysFinal "CoatsOnChairs$Day" "CoatsOnChairs$Day" "arrivals" "[I") ∈ gT := gT_mem 176 rfl rfl
set_option maxRecDepth 100000 in
theorem q177 : (Jvm.Cond.soleField "CoatsOnChairs$Day" "arrivals") ∈ gT := gT_mem 177 rfl rfl
set_option maxRecDepth 100000 in
theorem q178 : (Jvm.Cond.laysFinal "CoatsOnChairs$Day" "CoatsOnChairs$Day" "sitters" "[I") ∈ gT := gT_mem 178 rfl rfl
set_option maxRecDepth 100000 in
theorem q179 : (Jvm.Cond.soleField "CoatsOnChairs$Day" "sitters") ∈ gT := gT_mem 179 rfl rfl
set_option maxRecDepth 100000 in
theorem q180 : (Jvm.Cond.laysFinal "CoatsOnChairs$Day" "CoatsOnChairs$Day" "seatHolders" "[I") ∈ gT := gT_mem 180 rfl rfl
set_option maxRecDepth 100000 in
theorem q181 : (Jvm.Cond.soleField "CoatsOnChairs$Day" "seatHolders") ∈ gT := gT_mem 181 rfl rfl
set_option maxRecDepth 100000 in
theorem q182 : (Jvm.Cond.laysFinal "CoatsOnChairs$Day" "CoatsOnChairs$Day" "sitting" "[I") ∈ gT := gT_mem 182 rfl rfl
set_option maxRecDepth 100000 in
theorem q183 : (Jvm.Cond.soleField "CoatsOnChairs$Day" "sitting") ∈ gT := gT_mem 183 rfl rfl
set_option maxRecDepth 100000 in
theorem q184 : (Jvm.Cond.lays "CoatsOnChairs$Day" "CoatsOnChairs$Day" "room" "LCoatsOnChairs$Room;") ∈ gT := gT_mem 184 rfl rfl
set_option maxRecDepth 100000 in
theorem q185 : (Jvm.Cond.soleField "CoatsOnChairs$Day" "room") ∈ gT := gT_mem 185 rfl rfl
set_option maxRecDepth 100000 in
theorem q186 : (Jvm.Cond.lays "CoatsOnChairs$Day" "CoatsOnChairs$Day" "readers" "I") ∈ gT := gT_mem 186 rfl rfl
set_option maxRecDepth 100000 in
theorem q187 : (Jvm.Cond.soleField "CoatsOnChairs$Day" "readers") ∈ gT := gT_mem 187 rfl rfl
set_option maxRecDepth 100000 in
theorem q188 : (Jvm.Cond.lays "CoatsOnChairs$Day" "CoatsOnChairs$Day" "seats" "I") ∈ gT := gT_mem 188 rfl rfl
set_option maxRecDepth 100000 in
theorem q189 : (Jvm.Cond.soleField "CoatsOnChairs$Day" "seats") ∈ gT := gT_mem 189 rfl rfl
set_option maxRecDepth 100000 in
theorem q190 : (Jvm.Cond.lays "CoatsOnChairs$Day" "CoatsOnChairs$Day" "rule" "I") ∈ gT := gT_mem 190 rfl rfl
set_option maxRecDepth 100000 in
theorem q191 : (Jvm.Cond.soleField "CoatsOnChairs$Day" "rule") ∈ gT := gT_mem 191 rfl rfl
set_option maxRecDepth 100000 in
theorem q192 : (Jvm.Cond.lays "CoatsOnChairs$Day" "CoatsOnChairs$Day" "holders" "I") ∈ gT := gT_mem 192 rfl rfl
set_option maxRecDepth 100000 in
theorem q193 : (Jvm.Cond.soleField "CoatsOnChairs$Day" "holders") ∈ gT := gT_mem 193 rfl rfl
set_option maxRecDepth 100000 in
theorem q194 : (Jvm.Cond.lays "CoatsOnChairs$Day" "CoatsOnChairs$Day" "cardMinutes" "I") ∈ gT := gT_mem 194 rfl rfl
set_option maxRecDepth 100000 in
theorem q195 : (Jvm.Cond.soleField "CoatsOnChairs$Day" "cardMinutes") ∈ gT := gT_mem 195 rfl rfl
set_option maxRecDepth 100000 in
theorem q196 : (Jvm.Cond.lays "CoatsOnChairs$Day" "CoatsOnChairs$Day" "porterMinutes" "I") ∈ gT := gT_mem 196 rfl rfl
set_option maxRecDepth 100000 in
theorem q197 : (Jvm.Cond.soleField "CoatsOnChairs$Day" "porterMinutes") ∈ gT := gT_mem 197 rfl rfl
set_option maxRecDepth 100000 in
theorem q198 : (Jvm.Cond.lays "CoatsOnChairs$Day" "CoatsOnChairs$Day" "ran" "I") ∈ gT := gT_mem 198 rfl rfl
set_option maxRecDepth 100000 in
theorem q199 : (Jvm.Cond.soleField "CoatsOnChairs$Day" "ran") ∈ gT := gT_mem 199 rfl rfl
set_option maxRecDepth 100000 in
theorem q200 : (Jvm.Cond.lays "CoatsOnChairs$Day" "CoatsOnChairs$Day" "left" "I") ∈ gT := gT_mem 200 rfl rfl
set_option maxRecDepth 100000 in
theorem q201 : (Jvm.Cond.soleField "CoatsOnChairs$Day" "left") ∈ gT := gT_mem 201 rfl rfl
set_option maxRecDepth 100000 in
theorem q202 : (Jvm.Cond.lays "CoatsOnChairs$Day" "CoatsOnChairs$Day" "empty" "I") ∈ gT := gT_mem 202 rfl rfl
set_option maxRecDepth 100000 in
theorem q203 : (Jvm.Cond.soleField "CoatsOnChairs$Day" "empty") ∈ gT := gT_mem 203 rfl rfl
set_option maxRecDepth 100000 in
theorem q204 : (Jvm.Cond.lays "CoatsOnChairs$Day" "CoatsOnChairs$Day" "shutOut" "I") ∈ gT := gT_mem 204 rfl rfl
set_option maxRecDepth 100000 in
theorem q205 : (Jvm.Cond.soleField "CoatsOnChairs$Day" "shutOut") ∈ gT := gT_mem 205 rfl rfl
set_option maxRecDepth 100000 in
theorem q206 : (Jvm.Cond.lays "CoatsOnChairs$Day" "CoatsOnChairs$Day" "thrownOut" "I") ∈ gT := gT_mem 206 rfl rfl
set_option maxRecDepth 100000 in
theorem q207 : (Jvm.Cond.soleField "CoatsOnChairs$Day" "thrownOut") ∈ gT := gT_mem 207 rfl rfl
set_option maxRecDepth 100000 in
theorem q208 : (Jvm.Cond.superclass "CoatsOnChairs$Day" "java/lang/Object") ∈ gT := gT_mem 208 rfl rfl
set_option maxRecDepth 100000 in
theorem q209 : (Jvm.Cond.classLink "CoatsOnChairs" (56 : Nat) "CoatsOnChairs$Game") ∈ gT := gT_mem 209 rfl rfl
set_option maxRecDepth 100000 in
theorem q210 : (Jvm.Cond.instantiable "CoatsOnChairs$Game" (5 : Nat)) ∈ gT := gT_mem 210 rfl rfl
set_option maxRecDepth 100000 in
theorem q211 : (Jvm.Cond.methodLink "CoatsOnChairs" (58 : Nat) ({ cls := "CoatsOnChairs$Game", name := "<init>", desc := "(LCoatsOnChairs$Day;LCoatsOnChairs$Room;)V" } : Jvm.MethodName)) ∈ gT := gT_mem 211 rfl rfl
set_option maxRecDepth 100000 in
theorem q212 : (Jvm.Cond.instanceMethod ({ cls := "CoatsOnChairs$Game", name := "<init>", desc := "(LCoatsOnChairs$Day;LCoatsOnChairs$Room;)V" } : Jvm.MethodName)) ∈ gT := gT_mem 212 rfl rfl
set_option maxRecDepth 100000 in
theorem q213 : (Jvm.Cond.code ({ cls := "CoatsOnChairs$Game", name := "<init>", desc := "(LCoatsOnChairs$Day;LCoatsOnChairs$Room;)V" } : Jvm.MethodName) prog_3_method_1_code (3 : Nat) (Option.none : Option Jvm.ClassFile.FieldType)) ∈ gT := gT_mem 213 rfl rfl
set_option maxRecDepth 100000 in
theorem q214 : (Jvm.Cond.methodLink "CoatsOnChairs$Game" (3 : Nat) ({ cls := "java/lang/Object", name := "<init>", desc := "()V" } : Jvm.MethodName)) ∈ gT := gT_mem 214 rfl rfl
set_option maxRecDepth 100000 in
theorem q215 : (Jvm.Cond.fieldLink "CoatsOnChairs$Game" (9 : Nat) "CoatsOnChairs$Game" "day" "LCoatsOnChairs$Day;") ∈ gT := gT_mem 215 rfl rfl
set_option maxRecDepth 100000 in
theorem q216 : (Jvm.Cond.fieldLink "CoatsOnChairs$Game" (15 : Nat) "CoatsOnChairs$Game" "minutes" "[J") ∈ gT := gT_mem 216 rfl rfl
set_option maxRecDepth 100000 in
theorem q217 : (Jvm.Cond.fieldLink "CoatsOnChairs$Game" (19 : Nat) "CoatsOnChairs$Game" "room" "LCoatsOnChairs$Room;") ∈ gT := gT_mem 217 rfl rfl
set_option maxRecDepth 100000 in
theorem q218 : (Jvm.Cond.fieldLink "CoatsOnChairs$Game" (23 : Nat) "CoatsOnChairs$Game" "rule" "I") ∈ gT := gT_mem 218 rfl rfl
set_option maxRecDepth 100000 in
theorem q219 : (Jvm.Cond.fieldLink "CoatsOnChairs$Game" (27 : Nat) "CoatsOnChairs$Game" "mattering" "I") ∈ gT := gT_mem 219 rfl rfl
set_option maxRecDepth 100000 in
theorem q220 : (Jvm.Cond.laysFinal "CoatsOnChairs$Game" "CoatsOnChairs$Game" "day" "LCoatsOnChairs$Day;") ∈ gT := gT_mem 220 rfl rfl
set_option maxRecDepth 100000 in
theorem q221 : (Jvm.Cond.soleField "CoatsOnChairs$Game" "day") ∈ gT := gT_mem 221 rfl rfl
set_option maxRecDepth 100000 in
theorem q222 : (Jvm.Cond.laysFinal "CoatsOnChairs$Game" "CoatsOnChairs$Game" "minutes" "[J") ∈ gT := gT_mem 222 rfl rfl
set_option maxRecDepth 100000 in
theorem q223 : (Jvm.Cond.soleField "CoatsOnChairs$Game" "minutes") ∈ gT := gT_mem 223 rfl rfl
set_option maxRecDepth 100000 in
theorem q224 : (Jvm.Cond.lays "CoatsOnChairs$Game" "CoatsOnChairs$Game" "room" "LCoatsOnChairs$Room;") ∈ gT := gT_mem 224 rfl rfl
set_option maxRecDepth 100000 in
theorem q225 : (Jvm.Cond.soleField "CoatsOnChairs$Game" "room") ∈ gT := gT_mem 225 rfl rfl
set_option maxRecDepth 100000 in
theorem q226 : (Jvm.Cond.lays "CoatsOnChairs$Game" "CoatsOnChairs$Game" "rule" "I") ∈ gT := gT_mem 226 rfl rfl
set_option maxRecDepth 100000 in
theorem q227 : (Jvm.Cond.soleField "CoatsOnChairs$Game" "rule") ∈ gT := gT_mem 227 rfl rfl
set_option maxRecDepth 100000 in
theorem q228 : (Jvm.Cond.lays "CoatsOnChairs$Game" "CoatsOnChairs$Game" "mattering" "I") ∈ gT := gT_mem 228 rfl rfl
set_option maxRecDepth 100000 in
theorem q229 : (Jvm.Cond.soleField "CoatsOnChairs$Game" "mattering") ∈ gT := gT_mem 229 rfl rfl
set_option maxRecDepth 100000 in
theorem q230 : (Jvm.Cond.superclass "CoatsOnChairs$Game" "java/lang/Object") ∈ gT := gT_mem 230 rfl rfl
set_option maxRecDepth 100000 in
theorem q231 : (Jvm.Cond.arrayClass Jvm.ClassFile.FieldType.long) ∈ gT := gT_mem 231 rfl rfl
set_option maxRecDepth 100000 in
theorem q232 : (Jvm.Cond.methodLink "CoatsOnChairs" (81 : Nat) ({ cls := "CoatsOnChairs$Room", name := "everybody", desc := "()I" } : Jvm.MethodName)) ∈ gT := gT_mem 232 rfl rfl
set_option maxRecDepth 100000 in
theorem q233 : (Jvm.Cond.instanceMethod ({ cls := "CoatsOnChairs$Room", name := "everybody", desc := "()I" } : Jvm.MethodName)) ∈ gT := gT_mem 233 rfl rfl
set_option maxRecDepth 100000 in
theorem q234 : (Jvm.Cond.selects "CoatsOnChairs$Room" ({ cls := "CoatsOnChairs$Room", name := "everybody", desc := "()I" } : Jvm.MethodName) ({ cls := "CoatsOnChairs$Room", name := "everybody", desc := "()I" } : Jvm.MethodName)) ∈ gT := gT_mem 234 rfl rfl
set_option maxRecDepth 100000 in
theorem q235 : (Jvm.Cond.code ({ cls := "CoatsOnChairs$Room", name := "everybody", desc := "()I" } : Jvm.MethodName) prog_5_method_16_code (1 : Nat) (Option.some Jvm.ClassFile.FieldType.int)) ∈ gT := gT_mem 235 rfl rfl
set_option maxRecDepth 100000 in
theorem q236 : (Jvm.Cond.fieldLink "CoatsOnChairs" (10 : Nat) "CoatsOnChairs" "text" "LCoatsOnChairs$Text;") ∈ gT := gT_mem 236 rfl rfl
set_option maxRecDepth 100000 in
theorem q237 : (Jvm.Cond.fieldLink "CoatsOnChairs" (21 : Nat) "CoatsOnChairs" "scan" "LCoatsOnChairs$Scan;") ∈ gT := gT_mem 237 rfl rfl
set_option maxRecDepth 100000 in
theorem q238 : (Jvm.Cond.fieldLink "CoatsOnChairs" (52 : Nat) "CoatsOnChairs" "today" "LCoatsOnChairs$Day;") ∈ gT := gT_mem 238 rfl rfl
set_option maxRecDepth 100000 in
theorem q239 : (Jvm.Cond.fieldLink "CoatsOnChairs" (61 : Nat) "CoatsOnChairs" "game" "LCoatsOnChairs$Game;") ∈ gT := gT_mem 239 rfl rfl
set_option maxRecDepth 100000 in
theorem q240 : (Jvm.Cond.fieldLink "CoatsOnChairs" (65 : Nat) "CoatsOnChairs" "usedBy" "[I") ∈ gT := gT_mem 240 rfl rfl
set_option maxRecDepth 100000 in
theorem q241 : (Jvm.Cond.fieldLink "CoatsOnChairs" (68 : Nat) "CoatsOnChairs" "shutOutBy" "[I") ∈ gT := gT_mem 241 rfl rfl
set_option maxRecDepth 100000 in
theorem q242 : (Jvm.Cond.fieldLink "CoatsOnChairs" (71 : Nat) "CoatsOnChairs" "thrownOutBy" "[I") ∈ gT := gT_mem 242 rfl rfl
set_option maxRecDepth 100000 in
theorem q243 : (Jvm.Cond.fieldLink "CoatsOnChairs" (74 : Nat) "CoatsOnChairs" "kept" "[I") ∈ gT := gT_mem 243 rfl rfl
set_option maxRecDepth 100000 in
theorem q244 : (Jvm.Cond.fieldLink "CoatsOnChairs" (77 : Nat) "CoatsOnChairs" "keptCount" "I") ∈ gT := gT_mem 244 rfl rfl
set_option maxRecDepth 100000 in
theorem q245 : (Jvm.Cond.fieldLink "CoatsOnChairs" (85 : Nat) "CoatsOnChairs" "holders" "I") ∈ gT := gT_mem 245 rfl rfl
set_option maxRecDepth 100000 in
theorem q246 : (Jvm.Cond.fieldLink "CoatsOnChairs" (28 : Nat) "CoatsOnChairs" "laid" "LCoatsOnChairs$Room;") ∈ gT := gT_mem 246 rfl rfl
set_option maxRecDepth 100000 in
theorem q247 : (Jvm.Cond.fieldLink "CoatsOnChairs" (44 : Nat) "CoatsOnChairs" "draft" "LCoatsOnChairs$Room;") ∈ gT := gT_mem 247 rfl rfl
set_option maxRecDepth 100000 in
theorem q248 : (Jvm.Cond.laysFinal "CoatsOnChairs" "CoatsOnChairs" "text" "LCoatsOnChairs$Text;") ∈ gT := gT_mem 248 rfl rfl
set_option maxRecDepth 100000 in
theorem q249 : (Jvm.Cond.soleField "CoatsOnChairs" "text") ∈ gT := gT_mem 249 rfl rfl
set_option maxRecDepth 100000 in
theorem q250 : (Jvm.Cond.laysFinal "CoatsOnChairs" "CoatsOnChairs" "scan" "LCoatsOnChairs$Scan;") ∈ gT := gT_mem 250 rfl rfl
set_option maxRecDepth 100000 in
theorem q251 : (Jvm.Cond.soleField "CoatsOnChairs" "scan") ∈ gT := gT_mem 251 rfl rfl
set_option maxRecDepth 100000 in
theorem q252 : (Jvm.Cond.laysFinal "CoatsOnChairs" "CoatsOnChairs" "today" "LCoatsOnChairs$Day;") ∈ gT := gT_mem 252 rfl rfl
set_option maxRecDepth 100000 in
theorem q253 : (Jvm.Cond.soleField "CoatsOnChairs" "today") ∈ gT := gT_mem 253 rfl rfl
set_option maxRecDepth 100000 in
theorem q254 : (Jvm.Cond.laysFinal "CoatsOnChairs" "CoatsOnChairs" "game" "LCoatsOnChairs$Game;") ∈ gT := gT_mem 254 rfl rfl
set_option maxRecDepth 100000 in
theorem q255 : (Jvm.Cond.soleField "CoatsOnChairs" "game") ∈ gT := gT_mem 255 rfl rfl
set_option maxRecDepth 100000 in
theorem q256 : (Jvm.Cond.laysFinal "CoatsOnChairs" "CoatsOnChairs" "usedBy" "[I") ∈ gT := gT_mem 256 rfl rfl
set_option maxRecDepth 100000 in
theorem q257 : (Jvm.Cond.soleField "CoatsOnChairs" "usedBy") ∈ gT := gT_mem 257 rfl rfl
set_option maxRecDepth 100000 in
theorem q258 : (Jvm.Cond.laysFinal "CoatsOnChairs" "CoatsOnChairs" "shutOutBy" "[I") ∈ gT := gT_mem 258 rfl rfl
set_option maxRecDepth 100000 in
theorem q259 : (Jvm.Cond.soleField "CoatsOnChairs" "shutOutBy") ∈ gT := gT_mem 259 rfl rfl
set_option maxRecDepth 100000 in
theorem q260 : (Jvm.Cond.laysFinal "CoatsOnChairs" "CoatsOnChairs" "thrownOutBy" "[I") ∈ gT := gT_mem 260 rfl rfl
set_option maxRecDepth 100000 in
theorem q261 : (Jvm.Cond.soleField "CoatsOnChairs" "thrownOutBy") ∈ gT := gT_mem 261 rfl rfl
set_option maxRecDepth 100000 in
theorem q262 : (Jvm.Cond.laysFinal "CoatsOnChairs" "CoatsOnChairs" "kept" "[I") ∈ gT := gT_mem 262 rfl rfl
set_option maxRecDepth 100000 in
theorem q263 : (Jvm.Cond.soleField "CoatsOnChairs" "kept") ∈ gT := gT_mem 263 rfl rfl
set_option maxRecDepth 100000 in
theorem q264 : (Jvm.Cond.lays "CoatsOnChairs" "CoatsOnChairs" "keptCount" "I") ∈ gT := gT_mem 264 rfl rfl
set_option maxRecDepth 100000 in
theorem q265 : (Jvm.Cond.soleField "CoatsOnChairs" "keptCount") ∈ gT := gT_mem 265 rfl rfl
set_option maxRecDepth 100000 in
theorem q266 : (Jvm.Cond.lays "CoatsOnChairs" "CoatsOnChairs" "holders" "I") ∈ gT := gT_mem 266 rfl rfl
set_option maxRecDepth 100000 in
theorem q267 : (Jvm.Cond.soleField "CoatsOnChairs" "holders") ∈ gT := gT_mem 267 rfl rfl
set_option maxRecDepth 100000 in
theorem q268 : (Jvm.Cond.lays "CoatsOnChairs" "CoatsOnChairs" "laid" "LCoatsOnChairs$Room;") ∈ gT := gT_mem 268 rfl rfl
set_option maxRecDepth 100000 in
theorem q269 : (Jvm.Cond.soleField "CoatsOnChairs" "laid") ∈ gT := gT_mem 269 rfl rfl
set_option maxRecDepth 100000 in
theorem q270 : (Jvm.Cond.lays "CoatsOnChairs" "CoatsOnChairs" "draft" "LCoatsOnChairs$Room;") ∈ gT := gT_mem 270 rfl rfl
set_option maxRecDepth 100000 in
theorem q271 : (Jvm.Cond.soleField "CoatsOnChairs" "draft") ∈ gT := gT_mem 271 rfl rfl
set_option maxRecDepth 100000 in
theorem q272 : (Jvm.Cond.superclass "CoatsOnChairs" "java/lang/Object") ∈ gT := gT_mem 272 rfl rfl
set_option maxRecDepth 100000 in
theorem q273 : (Jvm.Cond.methodLink "CoatsOnChairsLaw" (15 : Nat) ({ cls := "CoatsOnChairs", name := "write", desc := "(IJ)I" } : Jvm.MethodName)) ∈ gT := gT_mem 273 rfl rfl
set_option maxRecDepth 100000 in
theorem q274 : (Jvm.Cond.instanceMethod ({ cls := "CoatsOnChairs", name := "write", desc := "(IJ)I" } : Jvm.MethodName)) ∈ gT := gT_mem 274 rfl rfl
set_option maxRecDepth 100000 in
theorem q275 : (Jvm.Cond.selects "CoatsOnChairs" ({ cls := "CoatsOnChairs", name := "write", desc := "(IJ)I" } : Jvm.MethodName) ({ cls := "CoatsOnChairs", name := "write", desc := "(IJ)I" } : Jvm.MethodName)) ∈ gT := gT_mem 275 rfl rfl
set_option maxRecDepth 100000 in
theorem q276 : (Jvm.Cond.code ({ cls := "CoatsOnChairs", name := "write", desc := "(IJ)I" } : Jvm.MethodName) prog_1_method_2_code (4 : Nat) (Option.some Jvm.ClassFile.FieldType.int)) ∈ gT := gT_mem 276 rfl rfl
set_option maxRecDepth 100000 in
theorem q277 : (Jvm.Cond.methodLink "CoatsOnChairs" (88 : Nat) ({ cls := "CoatsOnChairs", name := "within", desc := "(III)Z" } : Jvm.MethodName)) ∈ gT := gT_mem 277 rfl rfl
set_option maxRecDepth 100000 in
theorem q278 : (Jvm.Cond.static ({ cls := "CoatsOnChairs", name := "within", desc := "(III)Z" } : Jvm.MethodName)) ∈ gT := gT_mem 278 rfl rfl
set_option maxRecDepth 100000 in
theorem q279 : (Jvm.Cond.code ({ cls := "CoatsOnChairs", name := "within", desc := "(III)Z" } : Jvm.MethodName) prog_1_method_35_code (3 : Nat) (Option.some Jvm.ClassFile.FieldType.boolean)) ∈ gT := gT_mem 279 rfl rfl
set_option maxRecDepth 100000 in
theorem q280 : (Jvm.Cond.methodLink "CoatsOnChairs" (92 : Nat) ({ cls := "CoatsOnChairs$Text", name := "append", desc := "(IJ)Z" } : Jvm.MethodName)) ∈ gT := gT_mem 280 rfl rfl
set_option maxRecDepth 100000 in
theorem q281 : (Jvm.Cond.instanceMethod ({ cls := "CoatsOnChairs$Text", name := "append", desc := "(IJ)Z" } : Jvm.MethodName)) ∈ gT := gT_mem 281 rfl rfl
set_option maxRecDepth 100000 in
theorem q282 : (Jvm.Cond.selects "CoatsOnChairs$Text" ({ cls := "CoatsOnChairs$Text", name := "append", desc := "(IJ)Z" } : Jvm.MethodName) ({ cls := "CoatsOnChairs$Text", name := "append", desc := "(IJ)Z" } : Jvm.MethodName)) ∈ gT := gT_mem 282 rfl rfl
set_option maxRecDepth 100000 in
theorem q283 : (Jvm.Cond.code ({ cls := "CoatsOnChairs$Text", name := "append", desc := "(IJ)Z" } : Jvm.MethodName) prog_7_method_4_code (5 : Nat) (Option.some Jvm.ClassFile.FieldType.boolean)) ∈ gT := gT_mem 283 rfl rfl
set_option maxRecDepth 100000 in
theorem q284 : (Jvm.Cond.methodLink "CoatsOnChairs" (96 : Nat) ({ cls := "CoatsOnChairs$Text", name := "length", desc := "()I" } : Jvm.MethodName)) ∈ gT := gT_mem 284 rfl rfl
set_option maxRecDepth 100000 in
theorem q285 : (Jvm.Cond.instanceMethod ({ cls := "CoatsOnChairs$Text", name := "length", desc := "()I" } : Jvm.MethodName)) ∈ gT := gT_mem 285 rfl rfl
set_option maxRecDepth 100000 in
theorem q286 : (Jvm.Cond.selects "CoatsOnChairs$Text" ({ cls := "CoatsOnChairs$Text", name := "length", desc := "()I" } : Jvm.MethodName) ({ cls := "CoatsOnChairs$Text", name := "length", desc := "()I" } : Jvm.MethodName)) ∈ gT := gT_mem 286 rfl rfl
set_option maxRecDepth 100000 in
theorem q287 : (Jvm.Cond.code ({ cls := "CoatsOnChairs$Text", name := "length", desc := "()I" } : Jvm.MethodName) prog_7_method_2_code (1 : Nat) (Option.some Jvm.ClassFile.FieldType.int)) ∈ gT := gT_mem 287 rfl rfl
set_option maxRecDepth 100000 in
theorem q288 : (Jvm.Cond.methodLink "CoatsOnChairsLaw" (20 : Nat) ({ cls := "CoatsOnChairs", name := "wipe", desc := "()I" } : Jvm.MethodName)) ∈ gT := gT_mem 288 rfl rfl
set_option maxRecDepth 100000 in
theorem q289 : (Jvm.Cond.instanceMethod ({ cls := "CoatsOnChairs", name := "wipe", desc := "()I" } : Jvm.MethodName)) ∈ gT := gT_mem 289 rfl rfl
set_option maxRecDepth 100000 in
theorem q290 : (Jvm.Cond.selects "CoatsOnChairs" ({ cls := "CoatsOnChairs", name := "wipe", desc := "()I" } : Jvm.MethodName) ({ cls := "CoatsOnChairs", name := "wipe", desc := "()I" } : Jvm.MethodName)) ∈ gT := gT_mem 290 rfl rfl
set_option maxRecDepth 100000 in
theorem q291 : (Jvm.Cond.code ({ cls := "CoatsOnChairs", name := "wipe", desc := "()I" } : Jvm.MethodName) prog_1_method_3_code (2 : Nat) (Option.some Jvm.ClassFile.FieldType.int)) ∈ gT := gT_mem 291 rfl rfl
set_option maxRecDepth 100000 in
theorem q292 : (Jvm.Cond.methodLink "CoatsOnChairs" (99 : Nat) ({ cls := "CoatsOnChairs$Text", name := "clear", desc := "()V" } : Jvm.MethodName)) ∈ gT := gT_mem 292 rfl rfl
set_option maxRecDepth 100000 in
theorem q293 : (Jvm.Cond.instanceMethod ({ cls := "CoatsOnChairs$Text", name := "clear", desc := "()V" } : Jvm.MethodName)) ∈ gT := gT_mem 293 rfl rfl
set_option maxRecDepth 100000 in
theorem q294 : (Jvm.Cond.selects "CoatsOnChairs$Text" ({ cls := "CoatsOnChairs$Text", name := "clear", desc := "()V" } : Jvm.MethodName) ({ cls := "CoatsOnChairs$Text", name := "clear", desc := "()V" } : Jvm.MethodName)) ∈ gT := gT_mem 294 rfl rfl
set_option maxRecDepth 100000 in
theorem q295 : (Jvm.Cond.code ({ cls := "CoatsOnChairs$Text", name := "clear", desc := "()V" } : Jvm.MethodName) prog_7_method_3_code (1 : Nat) (Option.none : Option Jvm.ClassFile.FieldType)) ∈ gT := gT_mem 295 rfl rfl
set_option maxRecDepth 100000 in
theorem q296 : (Jvm.Cond.methodLink "CoatsOnChairsLaw" (25 : Nat) ({ cls := "CoatsOnChairs", name := "fault", desc := "()I" } : Jvm.MethodName)) ∈ gT := gT_mem 296 rfl rfl
set_option maxRecDepth 100000 in
theorem q297 : (Jvm.Cond.instanceMethod ({ cls := "CoatsOnChairs", name := "fault", desc := "()I" } : Jvm.MethodName)) ∈ gT := gT_mem 297 rfl rfl
set_option maxRecDepth 100000 in
theorem q298 : (Jvm.Cond.selects "CoatsOnChairs" ({ cls := "CoatsOnChairs", name := "fault", desc := "()I" } : Jvm.MethodName) ({ cls := "CoatsOnChairs", name := "fault", desc := "()I" } : Jvm.MethodName)) ∈ gT := gT_mem 298 rfl rfl
set_option maxRecDepth 100000 in
theorem q299 : (Jvm.Cond.code ({ cls := "CoatsOnChairs", name := "fault", desc := "()I" } : Jvm.MethodName) prog_1_method_4_code (1 : Nat) (Option.some Jvm.ClassFile.FieldType.int)) ∈ gT := gT_mem 299 rfl rfl
set_option maxRecDepth 100000 in
theorem q300 : (Jvm.Cond.methodLink "CoatsOnChairs" (102 : Nat) ({ cls := "CoatsOnChairs$Scan", name := "readInto", desc := "(LCoatsOnChairs$Room;)I" } : Jvm.MethodName)) ∈ gT := gT_mem 300 rfl rfl
set_option maxRecDepth 100000 in
theorem q301 : (Jvm.Cond.instanceMethod ({ cls := "CoatsOnChairs$Scan", name := "readInto", desc := "(LCoatsOnChairs$Room;)I" } : Jvm.MethodName)) ∈ gT := gT_mem 301 rfl rfl
set_option maxRecDepth 100000 in
theorem q302 : (Jvm.Cond.selects "CoatsOnChairs$Scan" ({ cls := "CoatsOnChairs$Scan", name := "readInto", desc := "(LCoatsOnChairs$Room;)I" } : Jvm.MethodName) ({ cls := "CoatsOnChairs$Scan", name := "readInto", desc := "(LCoatsOnChairs$Room;)I" } : Jvm.MethodName)) ∈ gT := gT_mem 302 rfl rfl
set_option maxRecDepth 100000 in
theorem q303 : (Jvm.Cond.code ({ cls := "CoatsOnChairs$Scan", name := "readInto", desc := "(LCoatsOnChairs$Room;)I" } : Jvm.MethodName) prog_6_method_2_code (5 : Nat) (Option.some Jvm.ClassFile.FieldType.int)) ∈ gT := gT_mem 303 rfl rfl
set_option maxRecDepth 100000 in
theorem q304 : (Jvm.Cond.methodLink "CoatsOnChairs$Scan" (23 : Nat) ({ cls := "CoatsOnChairs$Room", name := "clear", desc := "()V" } : Jvm.MethodName)) ∈ gT := gT_mem 304 rfl rfl
set_option maxRecDepth 100000 in
theorem q305 : (Jvm.Cond.methodLink "CoatsOnChairs$Scan" (28 : Nat) ({ cls := "CoatsOnChairs$Text", name := "length", desc := "()I" } : Jvm.MethodName)) ∈ gT := gT_mem 305 rfl rfl
set_option maxRecDepth 100000 in
theorem q306 : (Jvm.Cond.methodLink "CoatsOnChairs$Scan" (34 : Nat) ({ cls := "CoatsOnChairs$Text", name := "byteAt", desc := "(I)I" } : Jvm.MethodName)) ∈ gT := gT_mem 306 rfl rfl
set_option maxRecDepth 100000 in
theorem q307 : (Jvm.Cond.instanceMethod ({ cls := "CoatsOnChairs$Text", name := "byteAt", desc := "(I)I" } : Jvm.MethodName)) ∈ gT := gT_mem 307 rfl rfl
set_option maxRecDepth 100000 in
theorem q308 : (Jvm.Cond.selects "CoatsOnChairs$Text" ({ cls := "CoatsOnChairs$Text", name := "byteAt", desc := "(I)I" } : Jvm.MethodName) ({ cls := "CoatsOnChairs$Text", name := "byteAt", desc := "(I)I" } : Jvm.MethodName)) ∈ gT := gT_mem 308 rfl rfl
set_option maxRecDepth 100000 in
theorem q309 : (Jvm.Cond.code ({ cls := "CoatsOnChairs$Text", name := "byteAt", desc := "(I)I" } : Jvm.MethodName) prog_7_method_5_code (2 : Nat) (Option.some Jvm.ClassFile.FieldType.int)) ∈ gT := gT_mem 309 rfl rfl
set_option maxRecDepth 100000 in
theorem q310 : (Jvm.Cond.methodLink "CoatsOnChairs$Scan" (38 : Nat) ({ cls := "CoatsOnChairs$Scan", name := "itemOf", desc := "(I)I" } : Jvm.MethodName)) ∈ gT := gT_mem 310 rfl rfl
set_option maxRecDepth 100000 in
theorem q311 : (Jvm.Cond.static ({ cls := "CoatsOnChairs$Scan", name := "itemOf", desc := "(I)I" } : Jvm.MethodName)) ∈ gT := gT_mem 311 rfl rfl
set_option maxRecDepth 100000 in
theorem q312 : (Jvm.Cond.code ({ cls := "CoatsOnChairs$Scan", name := "itemOf", desc := "(I)I" } : Jvm.MethodName) prog_6_method_3_code (1 : Nat) (Option.some Jvm.ClassFile.FieldType.int)) ∈ gT := gT_mem 312 rfl rfl
set_option maxRecDepth 100000 in
theorem q313 : (Jvm.Cond.methodLink "CoatsOnChairs$Scan" (41 : Nat) ({ cls := "CoatsOnChairs$Scan", name := "readNumbers", desc := "(I)Z" } : Jvm.MethodName)) ∈ gT := gT_mem 313 rfl rfl
set_option maxRecDepth 100000 in
theorem q315 : (Jvm.Cond.instanceMethod ({ cls := "CoatsOnChairs$Scan", name := "readNumbers", desc := "(I)Z" } : Jvm.MethodName)) ∈ gT := gT_mem 315 rfl rfl
set_option maxRecDepth 100000 in
theorem q316 : (Jvm.Cond.code ({ cls := "CoatsOnChairs$Scan", name := "readNumbers", desc := "(I)Z" } : Jvm.MethodName) prog_6_method_4_code (6 : Nat) (Option.some Jvm.ClassFile.FieldType.boolean)) ∈ gT := gT_mem 316 rfl rfl
set_option maxRecDepth 100000 in
theorem q317 : (Jvm.Cond.fieldLink "CoatsOnChairs$Scan" (49 : Nat) "CoatsOnChairs$Scan" "FIRST" "[I") ∈ gT := gT_mem 317 rfl rfl
set_option maxRecDepth 100000 in
theorem q319 : (Jvm.Cond.methodLink "CoatsOnChairs$Scan" (52 : Nat) ({ cls := "CoatsOnChairs$Scan", name := "readFigures", desc := "()I" } : Jvm.MethodName)) ∈ gT := gT_mem 319 rfl rfl
set_option maxRecDepth 100000 in
theorem q321 : (Jvm.Cond.instanceMethod ({ cls := "CoatsOnChairs$Scan", name := "readFigures", desc := "()I" } : Jvm.MethodName)) ∈ gT := gT_mem 321 rfl rfl
set_option maxRecDepth 100000 in
theorem q322 : (Jvm.Cond.code ({ cls := "CoatsOnChairs$Scan", name := "readFigures", desc := "()I" } : Jvm.MethodName) prog_6_method_5_code (4 : Nat) (Option.some Jvm.ClassFile.FieldType.int)) ∈ gT := gT_mem 322 rfl rfl
set_option maxRecDepth 100000 in
theorem q323 : (Jvm.Cond.fieldLink "CoatsOnChairs$Scan" (55 : Nat) "CoatsOnChairs$Scan" "LEAST" "[I") ∈ gT := gT_mem 323 rfl rfl
set_option maxRecDepth 100000 in
theorem q325 : (Jvm.Cond.fieldLink "CoatsOnChairs$Scan" (58 : Nat) "CoatsOnChairs$Scan" "MOST" "[I") ∈ gT := gT_mem 325 rfl rfl
set_option maxRecDepth 100000 in
theorem q327 : (Jvm.Cond.methodLink "CoatsOnChairs$Scan" (45 : Nat) ({ cls := "CoatsOnChairs$Scan", name := "put", desc := "(ILCoatsOnChairs$Room;)Z" } : Jvm.MethodName)) ∈ gT := gT_mem 327 rfl rfl
set_option maxRecDepth 100000 in
theorem q329 : (Jvm.Cond.instanceMethod ({ cls := "CoatsOnChairs$Scan", name := "put", desc := "(ILCoatsOnChairs$Room;)Z" } : Jvm.MethodName)) ∈ gT := gT_mem 329 rfl rfl
set_option maxRecDepth 100000 in
theorem q330 : (Jvm.Cond.code ({ cls := "CoatsOnChairs$Scan", name := "put", desc := "(ILCoatsOnChairs$Room;)Z" } : Jvm.MethodName) prog_6_method_6_code (3 : Nat) (Option.some Jvm.ClassFile.FieldType.boolean)) ∈ gT := gT_mem 330 rfl rfl
set_option maxRecDepth 100000 in
theorem q331 : (Jvm.Cond.methodLink "CoatsOnChairs$Scan" (61 : Nat) ({ cls := "CoatsOnChairs$Room", name := "addSeat", desc := "(I)Z" } : Jvm.MethodName)) ∈ gT := gT_mem 331 rfl rfl
set_option maxRecDepth 100000 in
theorem q332 : (Jvm.Cond.methodLink "CoatsOnChairs$Scan" (64 : Nat) ({ cls := "CoatsOnChairs$Room", name := "addReader", desc := "([I)Z" } : Jvm.MethodName)) ∈ gT := gT_mem 332 rfl rfl
set_option maxRecDepth 100000 in
theorem q333 : (Jvm.Cond.methodLink "CoatsOnChairs$Scan" (68 : Nat) ({ cls := "CoatsOnChairs$Room", name := "setCards", desc := "(II)Z" } : Jvm.MethodName)) ∈ gT := gT_mem 333 rfl rfl
set_option maxRecDepth 100000 in
theorem q334 : (Jvm.Cond.instanceMethod ({ cls := "CoatsOnChairs$Room", name := "setCards", desc := "(II)Z" } : Jvm.MethodName)) ∈ gT := gT_mem 334 rfl rfl
set_option maxRecDepth 100000 in
theorem q335 : (Jvm.Cond.selects "CoatsOnChairs$Room" ({ cls := "CoatsOnChairs$Room", name := "setCards", desc := "(II)Z" } : Jvm.MethodName) ({ cls := "CoatsOnChairs$Room", name := "setCards", desc := "(II)Z" } : Jvm.MethodName)) ∈ gT := gT_mem 335 rfl rfl
set_option maxRecDepth 100000 in
theorem q336 : (Jvm.Cond.code ({ cls := "CoatsOnChairs$Room", name := "setCards", desc := "(II)Z" } : Jvm.MethodName) prog_5_method_5_code (3 : Nat) (Option.some Jvm.ClassFile.FieldType.boolean)) ∈ gT := gT_mem 336 rfl rfl
set_option maxRecDepth 100000 in
theorem q337 : (Jvm.Cond.methodLink "CoatsOnChairs$Scan" (72 : Nat) ({ cls := "CoatsOnChairs$Room", name := "setLamps", desc := "(I)Z" } : Jvm.MethodName)) ∈ gT := gT_mem 337 rfl rfl
set_option maxRecDepth 100000 in
theorem q338 : (Jvm.Cond.instanceMethod ({ cls := "CoatsOnChairs$Room", name := "setLamps", desc := "(I)Z" } : Jvm.MethodName)) ∈ gT := gT_mem 338 rfl rfl
set_option maxRecDepth 100000 in
theorem q339 : (Jvm.Cond.selects "CoatsOnChairs$Room" ({ cls := "CoatsOnChairs$Room", name := "setLamps", desc := "(I)Z" } : Jvm.MethodName) ({ cls := "CoatsOnChairs$Room", name := "setLamps", desc := "(I)Z" } : Jvm.MethodName)) ∈ gT := gT_mem 339 rfl rfl
set_option maxRecDepth 100000 in
theorem q340 : (Jvm.Cond.code ({ cls := "CoatsOnChairs$Room", name := "setLamps", desc := "(I)Z" } : Jvm.MethodName) prog_5_method_6_code (2 : Nat) (Option.some Jvm.ClassFile.FieldType.boolean)) ∈ gT := gT_mem 340 rfl rfl
set_option maxRecDepth 100000 in
theorem q341 : (Jvm.Cond.methodLink "CoatsOnChairs$Scan" (75 : Nat) ({ cls := "CoatsOnChairs$Room", name := "setSeeking", desc := "(I)Z" } : Jvm.MethodName)) ∈ gT := gT_mem 341 rfl rfl
set_option maxRecDepth 100000 in
theorem q342 : (Jvm.Cond.instanceMethod ({ cls := "CoatsOnChairs$Room", name := "setSeeking", desc := "(I)Z" } : Jvm.MethodName)) ∈ gT := gT_mem 342 rfl rfl
set_option maxRecDepth 100000 in
theorem q343 : (Jvm.Cond.selects "CoatsOnChairs$Room" ({ cls := "CoatsOnChairs$Room", name := "setSeeking", desc := "(I)Z" } : Jvm.MethodName) ({ cls := "CoatsOnChairs$Room", name := "setSeeking", desc := "(I)Z" } : Jvm.MethodName)) ∈ gT := gT_mem 343 rfl rfl
set_option maxRecDepth 100000 in
theorem q344 : (Jvm.Cond.code ({ cls := "CoatsOnChairs$Room", name := "setSeeking", desc := "(I)Z" } : Jvm.MethodName) prog_5_method_7_code (2 : Nat) (Option.some Jvm.ClassFile.FieldType.boolean)) ∈ gT := gT_mem 344 rfl rfl
set_option maxRecDepth 100000 in
theorem q345 : (Jvm.Cond.methodLink "CoatsOnChairs$Scan" (78 : Nat) ({ cls := "CoatsOnChairs$Room", name := "setLater", desc := "(I)Z" } : Jvm.MethodName)) ∈ gT := gT_mem 345 rfl rfl
set_option maxRecDepth 100000 in
theorem q346 : (Jvm.Cond.instanceMethod ({ cls := "CoatsOnChairs$Room", name := "setLater", desc := "(I)Z" } : Jvm.MethodName)) ∈ gT := gT_mem 346 rfl rfl
set_option maxRecDepth 100000 in
theorem q347 : (Jvm.Cond.selects "CoatsOnChairs$Room" ({ cls := "CoatsOnChairs$Room", name := "setLater", desc := "(I)Z" } : Jvm.MethodName) ({ cls := "CoatsOnChairs$Room", name := "setLater", desc := "(I)Z" } : Jvm.MethodName)) ∈ gT := gT_mem 347 rfl rfl
set_option maxRecDepth 100000 in
theorem q348 : (Jvm.Cond.code ({ cls := "CoatsOnChairs$Room", name := "setLater", desc := "(I)Z" } : Jvm.MethodName) prog_5_method_8_code (2 : Nat) (Option.some Jvm.ClassFile.FieldType.boolean)) ∈ gT := gT_mem 348 rfl rfl
set_option maxRecDepth 100000 in
theorem q349 : (Jvm.Cond.methodLink "CoatsOnChairsLaw" (29 : Nat) ({ cls := "CoatsOnChairs", name := "lay", desc := "()I" } : Jvm.MethodName)) ∈ gT := gT_mem 349 rfl rfl
set_option maxRecDepth 100000 in
theorem q350 : (Jvm.Cond.instanceMethod ({ cls := "CoatsOnChairs", name := "lay", desc := "()I" } : Jvm.MethodName)) ∈ gT := gT_mem 350 rfl rfl
set_option maxRecDepth 100000 in
theorem q351 : (Jvm.Cond.selects "CoatsOnChairs" ({ cls := "CoatsOnChairs", name := "lay", desc := "()I" } : Jvm.MethodName) ({ cls := "CoatsOnChairs", name := "lay", desc := "()I" } : Jvm.MethodName)) ∈ gT := gT_mem 351 rfl rfl
set_option maxRecDepth 100000 in
theorem q352 : (Jvm.Cond.code ({ cls := "CoatsOnChairs", name := "lay", desc := "()I" } : Jvm.MethodName) prog_1_method_5_code (2 : Nat) (Option.some Jvm.ClassFile.FieldType.int)) ∈ gT := gT_mem 352 rfl rfl
set_option maxRecDepth 100000 in
theorem q353 : (Jvm.Cond.methodLink "CoatsOnChairs" (106 : Nat) ({ cls := "CoatsOnChairs$Room", name := "seatCount", desc := "()I" } : Jvm.MethodName)) ∈ gT := gT_mem 353 rfl rfl
set_option maxRecDepth 100000 in
theorem q354 : (Jvm.Cond.instanceMethod ({ cls := "CoatsOnChairs$Room", name := "seatCount", desc := "()I" } : Jvm.MethodName)) ∈ gT := gT_mem 354 rfl rfl
set_option maxRecDepth 100000 in
theorem q355 : (Jvm.Cond.selects "CoatsOnChairs$Room" ({ cls := "CoatsOnChairs$Room", name := "seatCount", desc := "()I" } : Jvm.MethodName) ({ cls := "CoatsOnChairs$Room", name := "seatCount", desc := "()I" } : Jvm.MethodName)) ∈ gT := gT_mem 355 rfl rfl
set_option maxRecDepth 100000 in
theorem q356 : (Jvm.Cond.code ({ cls := "CoatsOnChairs$Room", name := "seatCount", desc := "()I" } : Jvm.MethodName) prog_5_method_9_code (1 : Nat) (Option.some Jvm.ClassFile.FieldType.int)) ∈ gT := gT_mem 356 rfl rfl
set_option maxRecDepth 100000 in
theorem q357 : (Jvm.Cond.methodLink "CoatsOnChairs" (109 : Nat) ({ cls := "CoatsOnChairs$Room", name := "readerCount", desc := "()I" } : Jvm.MethodName)) ∈ gT := gT_mem 357 rfl rfl
set_option maxRecDepth 100000 in
theorem q358 : (Jvm.Cond.instanceMethod ({ cls := "CoatsOnChairs$Room", name := "readerCount", desc := "()I" } : Jvm.MethodName)) ∈ gT := gT_mem 358 rfl rfl
set_option maxRecDepth 100000 in
theorem q359 : (Jvm.Cond.selects "CoatsOnChairs$Room" ({ cls := "CoatsOnChairs$Room", name := "readerCount", desc := "()I" } : Jvm.MethodName) ({ cls := "CoatsOnChairs$Room", name := "readerCount", desc := "()I" } : Jvm.MethodName)) ∈ gT := gT_mem 359 rfl rfl
set_option maxRecDepth 100000 in
theorem q360 : (Jvm.Cond.code ({ cls := "CoatsOnChairs$Room", name := "readerCount", desc := "()I" } : Jvm.MethodName) prog_5_method_10_code (1 : Nat) (Option.some Jvm.ClassFile.FieldType.int)) ∈ gT := gT_mem 360 rfl rfl
set_option maxRecDepth 100000 in
theorem q361 : (Jvm.Cond.methodLink "CoatsOnChairs" (112 : Nat) ({ cls := "CoatsOnChairs$Game", name := "forget", desc := "(LCoatsOnChairs$Room;)V" } : Jvm.MethodName)) ∈ gT := gT_mem 361 rfl rfl
set_option maxRecDepth 100000 in
theorem q362 : (Jvm.Cond.instanceMethod ({ cls := "CoatsOnChairs$Game", name := "forget", desc := "(LCoatsOnChairs$Room;)V" } : Jvm.MethodName)) ∈ gT := gT_mem 362 rfl rfl
set_option maxRecDepth 100000 in
theorem q363 : (Jvm.Cond.selects "CoatsOnChairs$Game" ({ cls := "CoatsOnChairs$Game", name := "forget", desc := "(LCoatsOnChairs$Room;)V" } : Jvm.MethodName) ({ cls := "CoatsOnChairs$Game", name := "forget", desc := "(LCoatsOnChairs$Room;)V" } : Jvm.MethodName)) ∈ gT := gT_mem 363 rfl rfl
set_option maxRecDepth 100000 in
theorem q364 : (Jvm.Cond.code ({ cls := "CoatsOnChairs$Game", name := "forget", desc := "(LCoatsOnChairs$Room;)V" } : Jvm.MethodName) prog_3_method_2_code (2 : Nat) (Option.none : Option Jvm.ClassFile.FieldType)) ∈ gT := gT_mem 364 rfl rfl
set_option maxRecDepth 100000 in
theorem q365 : (Jvm.Cond.methodLink "CoatsOnChairsLaw" (33 : Nat) ({ cls := "CoatsOnChairs", name := "reader", desc := "(II)I" } : Jvm.MethodName)) ∈ gT := gT_mem 365 rfl rfl
set_option maxRecDepth 100000 in
theorem q366 : (Jvm.Cond.instanceMethod ({ cls := "CoatsOnChairs", name := "reader", desc := "(II)I" } : Jvm.MethodName)) ∈ gT := gT_mem 366 rfl rfl
set_option maxRecDepth 100000 in
theorem q367 : (Jvm.Cond.selects "CoatsOnChairs" ({ cls := "CoatsOnChairs", name := "reader", desc := "(II)I" } : Jvm.MethodName) ({ cls := "CoatsOnChairs", name := "reader", desc := "(II)I" } : Jvm.MethodName)) ∈ gT := gT_mem 367 rfl rfl
set_option maxRecDepth 100000 in
theorem q368 : (Jvm.Cond.code ({ cls := "CoatsOnChairs", name := "reader", desc := "(II)I" } : Jvm.MethodName) prog_1_method_6_code (3 : Nat) (Option.some Jvm.ClassFile.FieldType.int)) ∈ gT := gT_mem 368 rfl rfl
set_option maxRecDepth 100000 in
theorem q369 : (Jvm.Cond.methodLink "CoatsOnChairs" (115 : Nat) ({ cls := "CoatsOnChairs", name := "isReader", desc := "(I)Z" } : Jvm.MethodName)) ∈ gT := gT_mem 369 rfl rfl
set_option maxRecDepth 100000 in
theorem q371 : (Jvm.Cond.instanceMethod ({ cls := "CoatsOnChairs", name := "isReader", desc := "(I)Z" } : Jvm.MethodName)) ∈ gT := gT_mem 371 rfl rfl
set_option maxRecDepth 100000 in
theorem q372 : (Jvm.Cond.code ({ cls := "CoatsOnChairs", name := "isReader", desc := "(I)Z" } : Jvm.MethodName) prog_1_method_32_code (2 : Nat) (Option.some Jvm.ClassFile.FieldType.boolean)) ∈ gT := gT_mem 372 rfl rfl
set_option maxRecDepth 100000 in
theorem q373 : (Jvm.Cond.methodLink "CoatsOnChairs" (118 : Nat) ({ cls := "CoatsOnChairs$Room", name := "number", desc := "(II)I" } : Jvm.MethodName)) ∈ gT := gT_mem 373 rfl rfl
set_option maxRecDepth 100000 in
theorem q374 : (Jvm.Cond.instanceMethod ({ cls := "CoatsOnChairs$Room", name := "number", desc := "(II)I" } : Jvm.MethodName)) ∈ gT := gT_mem 374 rfl rfl
set_option maxRecDepth 100000 in
theorem q375 : (Jvm.Cond.selects "CoatsOnChairs$Room" ({ cls := "CoatsOnChairs$Room", name := "number", desc := "(II)I" } : Jvm.MethodName) ({ cls := "CoatsOnChairs$Room", name := "number", desc := "(II)I" } : Jvm.MethodName)) ∈ gT := gT_mem 375 rfl rfl
set_option maxRecDepth 100000 in
theorem q376 : (Jvm.Cond.code ({ cls := "CoatsOnChairs$Room", name := "number", desc := "(II)I" } : Jvm.MethodName) prog_5_method_18_code (4 : Nat) (Option.some Jvm.ClassFile.FieldType.int)) ∈ gT := gT_mem 376 rfl rfl
set_option maxRecDepth 100000 in
theorem q377 : (Jvm.Cond.methodLink "CoatsOnChairsLaw" (38 : Nat) ({ cls := "CoatsOnChairs", name := "kind", desc := "(I)I" } : Jvm.MethodName)) ∈ gT := gT_mem 377 rfl rfl
set_option maxRecDepth 100000 in
theorem q378 : (Jvm.Cond.instanceMethod ({ cls := "CoatsOnChairs", name := "kind", desc := "(I)I" } : Jvm.MethodName)) ∈ gT := gT_mem 378 rfl rfl
set_option maxRecDepth 100000 in
theorem q379 : (Jvm.Cond.selects "CoatsOnChairs" ({ cls := "CoatsOnChairs", name := "kind", desc := "(I)I" } : Jvm.MethodName) ({ cls := "CoatsOnChairs", name := "kind", desc := "(I)I" } : Jvm.MethodName)) ∈ gT := gT_mem 379 rfl rfl
set_option maxRecDepth 100000 in
theorem q380 : (Jvm.Cond.code ({ cls := "CoatsOnChairs", name := "kind", desc := "(I)I" } : Jvm.MethodName) prog_1_method_7_code (2 : Nat) (Option.some Jvm.ClassFile.FieldType.int)) ∈ gT := gT_mem 380 rfl rfl
set_option maxRecDepth 100000 in
theorem q381 : (Jvm.Cond.methodLink "CoatsOnChairs" (122 : Nat) ({ cls := "CoatsOnChairs", name := "isSeat", desc := "(I)Z" } : Jvm.MethodName)) ∈ gT := gT_mem 381 rfl rfl
set_option maxRecDepth 100000 in
theorem q383 : (Jvm.Cond.instanceMethod ({ cls := "CoatsOnChairs", name := "isSeat", desc := "(I)Z" } : Jvm.MethodName)) ∈ gT := gT_mem 383 rfl rfl
set_option maxRecDepth 100000 in
theorem q384 : (Jvm.Cond.code ({ cls := "CoatsOnChairs", name := "isSeat", desc := "(I)Z" } : Jvm.MethodName) prog_1_method_33_code (2 : Nat) (Option.some Jvm.ClassFile.FieldType.boolean)) ∈ gT := gT_mem 384 rfl rfl
set_option maxRecDepth 100000 in
theorem q385 : (Jvm.Cond.methodLink "CoatsOnChairs" (125 : Nat) ({ cls := "CoatsOnChairs$Room", name := "kindOf", desc := "(I)I" } : Jvm.MethodName)) ∈ gT := gT_mem 385 rfl rfl
set_option maxRecDepth 100000 in
theorem q386 : (Jvm.Cond.instanceMethod ({ cls := "CoatsOnChairs$Room", name := "kindOf", desc := "(I)I" } : Jvm.MethodName)) ∈ gT := gT_mem 386 rfl rfl
set_option maxRecDepth 100000 in
theorem q387 : (Jvm.Cond.selects "CoatsOnChairs$Room" ({ cls := "CoatsOnChairs$Room", name := "kindOf", desc := "(I)I" } : Jvm.MethodName) ({ cls := "CoatsOnChairs$Room", name := "kindOf", desc := "(I)I" } : Jvm.MethodName)) ∈ gT := gT_mem 387 rfl rfl
set_option maxRecDepth 100000 in
theorem q388 : (Jvm.Cond.code ({ cls := "CoatsOnChairs$Room", name := "kindOf", desc := "(I)I" } : Jvm.MethodName) prog_5_method_17_code (2 : Nat) (Option.some Jvm.ClassFile.FieldType.int)) ∈ gT := gT_mem 388 rfl rfl
set_option maxRecDepth 100000 in
theorem q389 : (Jvm.Cond.methodLink "CoatsOnChairsLaw" (43 : Nat) ({ cls := "CoatsOnChairs", name := "hold", desc := "(IZ)I" } : Jvm.MethodName)) ∈ gT := gT_mem 389 rfl rfl
set_option maxRecDepth 100000 in
theorem q390 : (Jvm.Cond.instanceMethod ({ cls := "CoatsOnChairs", name := "hold", desc := "(IZ)I" } : Jvm.MethodName)) ∈ gT := gT_mem 390 rfl rfl
set_option maxRecDepth 100000 in
theorem q391 : (Jvm.Cond.selects "CoatsOnChairs" ({ cls := "CoatsOnChairs", name := "hold", desc := "(IZ)I" } : Jvm.MethodName) ({ cls := "CoatsOnChairs", name := "hold", desc := "(IZ)I" } : Jvm.MethodName)) ∈ gT := gT_mem 391 rfl rfl
set_option maxRecDepth 100000 in
theorem q392 : (Jvm.Cond.code ({ cls := "CoatsOnChairs", name := "hold", desc := "(IZ)I" } : Jvm.MethodName) prog_1_method_8_code (4 : Nat) (Option.some Jvm.ClassFile.FieldType.int)) ∈ gT := gT_mem 392 rfl rfl
set_option maxRecDepth 100000 in
theorem q393 : (Jvm.Cond.methodLink "CoatsOnChairsLaw" (48 : Nat) ({ cls := "CoatsOnChairs", name := "seat", desc := "(IIII)I" } : Jvm.MethodName)) ∈ gT := gT_mem 393 rfl rfl
set_option maxRecDepth 100000 in
theorem q394 : (Jvm.Cond.instanceMethod ({ cls := "CoatsOnChairs", name := "seat", desc := "(IIII)I" } : Jvm.MethodName)) ∈ gT := gT_mem 394 rfl rfl
set_option maxRecDepth 100000 in
theorem q395 : (Jvm.Cond.selects "CoatsOnChairs" ({ cls := "CoatsOnChairs", name := "seat", desc := "(IIII)I" } : Jvm.MethodName) ({ cls := "CoatsOnChairs", name := "seat", desc := "(IIII)I" } : Jvm.MethodName)) ∈ gT := gT_mem 395 rfl rfl
set_option maxRecDepth 100000 in
theorem q396 : (Jvm.Cond.code ({ cls := "CoatsOnChairs", name := "seat", desc := "(IIII)I" } : Jvm.MethodName) prog_1_method_9_code (6 : Nat) (Option.some Jvm.ClassFile.FieldType.int)) ∈ gT := gT_mem 396 rfl rfl
set_option maxRecDepth 100000 in
theorem q397 : (Jvm.Cond.methodLink "CoatsOnChairs" (129 : Nat) ({ cls := "CoatsOnChairs", name := "isRule", desc := "(I)Z" } : Jvm.MethodName)) ∈ gT := gT_mem 397 rfl rfl
set_option maxRecDepth 100000 in
theorem q398 : (Jvm.Cond.static ({ cls := "CoatsOnChairs", name := "isRule", desc := "(I)Z" } : Jvm.MethodName)) ∈ gT := gT_mem 398 rfl rfl
set_option maxRecDepth 100000 in
theorem q399 : (Jvm.Cond.code ({ cls := "CoatsOnChairs", name := "isRule", desc := "(I)Z" } : Jvm.MethodName) prog_1_method_34_code (1 : Nat) (Option.some Jvm.ClassFile.FieldType.boolean)) ∈ gT := gT_mem 399 rfl rfl
set_option maxRecDepth 100000 in
theorem q400 : (Jvm.Cond.methodLink "CoatsOnChairs" (132 : Nat) ({ cls := "CoatsOnChairs$Day", name := "open", desc := "(LCoatsOnChairs$Room;II)V" } : Jvm.MethodName)) ∈ gT := gT_mem 400 rfl rfl
set_option maxRecDepth 100000 in
theorem q401 : (Jvm.Cond.instanceMethod ({ cls := "CoatsOnChairs$Day", name := "open", desc := "(LCoatsOnChairs$Room;II)V" } : Jvm.MethodName)) ∈ gT := gT_mem 401 rfl rfl
set_option maxRecDepth 100000 in
theorem q402 : (Jvm.Cond.selects "CoatsOnChairs$Day" ({ cls := "CoatsOnChairs$Day", name := "open", desc := "(LCoatsOnChairs$Room;II)V" } : Jvm.MethodName) ({ cls := "CoatsOnChairs$Day", name := "open", desc := "(LCoatsOnChairs$Room;II)V" } : Jvm.MethodName)) ∈ gT := gT_mem 402 rfl rfl
set_option maxRecDepth 100000 in
theorem q403 : (Jvm.Cond.code ({ cls := "CoatsOnChairs$Day", name := "open", desc := "(LCoatsOnChairs$Room;II)V" } : Jvm.MethodName) prog_2_method_2_code (5 : Nat) (Option.none : Option Jvm.ClassFile.FieldType)) ∈ gT := gT_mem 403 rfl rfl
set_option maxRecDepth 100000 in
theorem q404 : (Jvm.Cond.methodLink "CoatsOnChairs$Day" (40 : Nat) ({ cls := "CoatsOnChairs$Room", name := "readerCount", desc := "()I" } : Jvm.MethodName)) ∈ gT := gT_mem 404 rfl rfl
set_option maxRecDepth 100000 in
theorem q405 : (Jvm.Cond.methodLink "CoatsOnChairs$Day" (46 : Nat) ({ cls := "java/lang/Math", name := "min", desc := "(II)I" } : Jvm.MethodName)) ∈ gT := gT_mem 405 rfl rfl
set_option maxRecDepth 100000 in
theorem q406 : (Jvm.Cond.static ({ cls := "java/lang/Math", name := "min", desc := "(II)I" } : Jvm.MethodName)) ∈ gT := gT_mem 406 rfl rfl
set_option maxRecDepth 100000 in
theorem q407 : (Jvm.Cond.code ({ cls := "java/lang/Math", name := "min", desc := "(II)I" } : Jvm.MethodName) prog_11_method_69_code (2 : Nat) (Option.some Jvm.ClassFile.FieldType.int)) ∈ gT := gT_mem 407 rfl rfl
set_option maxRecDepth 100000 in
theorem q408 : (Jvm.Cond.methodLink "CoatsOnChairs$Day" (56 : Nat) ({ cls := "CoatsOnChairs$Room", name := "seatCount", desc := "()I" } : Jvm.MethodName)) ∈ gT := gT_mem 408 rfl rfl
set_option maxRecDepth 100000 in
theorem q409 : (Jvm.Cond.methodLink "CoatsOnChairs$Day" (68 : Nat) ({ cls := "CoatsOnChairs$Room", name := "cardMinutes", desc := "()I" } : Jvm.MethodName)) ∈ gT := gT_mem 409 rfl rfl
set_option maxRecDepth 100000 in
theorem q410 : (Jvm.Cond.instanceMethod ({ cls := "CoatsOnChairs$Room", name := "cardMinutes", desc := "()I" } : Jvm.MethodName)) ∈ gT := gT_mem 410 rfl rfl
set_option maxRecDepth 100000 in
theorem q411 : (Jvm.Cond.selects "CoatsOnChairs$Room" ({ cls := "CoatsOnChairs$Room", name := "cardMinutes", desc := "()I" } : Jvm.MethodName) ({ cls := "CoatsOnChairs$Room", name := "cardMinutes", desc := "()I" } : Jvm.MethodName)) ∈ gT := gT_mem 411 rfl rfl
set_option maxRecDepth 100000 in
theorem q412 : (Jvm.Cond.code ({ cls := "CoatsOnChairs$Room", name := "cardMinutes", desc := "()I" } : Jvm.MethodName) prog_5_method_11_code (1 : Nat) (Option.some Jvm.ClassFile.FieldType.int)) ∈ gT := gT_mem 412 rfl rfl
set_option maxRecDepth 100000 in
theorem q413 : (Jvm.Cond.methodLink "CoatsOnChairs$Day" (71 : Nat) ({ cls := "CoatsOnChairs$Room", name := "porterMinutes", desc := "()I" } : Jvm.MethodName)) ∈ gT := gT_mem 413 rfl rfl
set_option maxRecDepth 100000 in
theorem q414 : (Jvm.Cond.instanceMethod ({ cls := "CoatsOnChairs$Room", name := "porterMinutes", desc := "()I" } : Jvm.MethodName)) ∈ gT := gT_mem 414 rfl rfl
set_option maxRecDepth 100000 in
theorem q415 : (Jvm.Cond.selects "CoatsOnChairs$Room" ({ cls := "CoatsOnChairs$Room", name := "porterMinutes", desc := "()I" } : Jvm.MethodName) ({ cls := "CoatsOnChairs$Room", name := "porterMinutes", desc := "()I" } : Jvm.MethodName)) ∈ gT := gT_mem 415 rfl rfl
set_option maxRecDepth 100000 in
theorem q416 : (Jvm.Cond.code ({ cls := "CoatsOnChairs$Room", name := "porterMinutes", desc := "()I" } : Jvm.MethodName) prog_5_method_12_code (1 : Nat) (Option.some Jvm.ClassFile.FieldType.int)) ∈ gT := gT_mem 416 rfl rfl
set_option maxRecDepth 100000 in
theorem q417 : (Jvm.Cond.methodLink "CoatsOnChairs$Day" (74 : Nat) ({ cls := "CoatsOnChairs$Day", name := "useCards", desc := "(II)V" } : Jvm.MethodName)) ∈ gT := gT_mem 417 rfl rfl
set_option maxRecDepth 100000 in
theorem q418 : (Jvm.Cond.instanceMethod ({ cls := "CoatsOnChairs$Day", name := "useCards", desc := "(II)V" } : Jvm.MethodName)) ∈ gT := gT_mem 418 rfl rfl
set_option maxRecDepth 100000 in
theorem q419 : (Jvm.Cond.selects "CoatsOnChairs$Day" ({ cls := "CoatsOnChairs$Day", name := "useCards", desc := "(II)V" } : Jvm.MethodName) ({ cls := "CoatsOnChairs$Day", name := "useCards", desc := "(II)V" } : Jvm.MethodName)) ∈ gT := gT_mem 419 rfl rfl
set_option maxRecDepth 100000 in
theorem q420 : (Jvm.Cond.code ({ cls := "CoatsOnChairs$Day", name := "useCards", desc := "(II)V" } : Jvm.MethodName) prog_2_method_3_code (3 : Nat) (Option.none : Option Jvm.ClassFile.FieldType)) ∈ gT := gT_mem 420 rfl rfl
set_option maxRecDepth 100000 in
theorem q421 : (Jvm.Cond.methodLink "CoatsOnChairs$Day" (78 : Nat) ({ cls := "CoatsOnChairs$Room", name := "number", desc := "(II)I" } : Jvm.MethodName)) ∈ gT := gT_mem 421 rfl rfl
set_option maxRecDepth 100000 in
theorem q422 : (Jvm.Cond.methodLink "CoatsOnChairs$Day" (81 : Nat) ({ cls := "java/util/Arrays", name := "fill", desc := "([II)V" } : Jvm.MethodName)) ∈ gT := gT_mem 422 rfl rfl
set_option maxRecDepth 100000 in
theorem q423 : (Jvm.Cond.static ({ cls := "java/util/Arrays", name := "fill", desc := "([II)V" } : Jvm.MethodName)) ∈ gT := gT_mem 423 rfl rfl
set_option maxRecDepth 100000 in
theorem q424 : (Jvm.Cond.code ({ cls := "java/util/Arrays", name := "fill", desc := "([II)V" } : Jvm.MethodName) prog_13_method_103_code (4 : Nat) (Option.none : Option Jvm.ClassFile.FieldType)) ∈ gT := gT_mem 424 rfl rfl
set_option maxRecDepth 100000 in
theorem q425 : (Jvm.Cond.methodLink "CoatsOnChairs" (136 : Nat) ({ cls := "CoatsOnChairs$Day", name := "runTo", desc := "(I)V" } : Jvm.MethodName)) ∈ gT := gT_mem 425 rfl rfl
set_option maxRecDepth 100000 in
theorem q426 : (Jvm.Cond.instanceMethod ({ cls := "CoatsOnChairs$Day", name := "runTo", desc := "(I)V" } : Jvm.MethodName)) ∈ gT := gT_mem 426 rfl rfl
set_option maxRecDepth 100000 in
theorem q427 : (Jvm.Cond.selects "CoatsOnChairs$Day" ({ cls := "CoatsOnChairs$Day", name := "runTo", desc := "(I)V" } : Jvm.MethodName) ({ cls := "CoatsOnChairs$Day", name := "runTo", desc := "(I)V" } : Jvm.MethodName)) ∈ gT := gT_mem 427 rfl rfl
set_option maxRecDepth 100000 in
theorem q428 : (Jvm.Cond.code ({ cls := "CoatsOnChairs$Day", name := "runTo", desc := "(I)V" } : Jvm.MethodName) prog_2_method_5_code (3 : Nat) (Option.none : Option Jvm.ClassFile.FieldType)) ∈ gT := gT_mem 428 rfl rfl
set_option maxRecDepth 100000 in
theorem q429 : (Jvm.Cond.methodLink "CoatsOnChairs$Day" (115 : Nat) ({ cls := "CoatsOnChairs$Day", name := "comeBack", desc := "(I)V" } : Jvm.MethodName)) ∈ gT := gT_mem 429 rfl rfl
set_option maxRecDepth 100000 in
theorem q431 : (Jvm.Cond.instanceMethod ({ cls := "CoatsOnChairs$Day", name := "comeBack", desc := "(I)V" } : Jvm.MethodName)) ∈ gT := gT_mem 431 rfl rfl
set_option maxRecDepth 100000 in
theorem q432 : (Jvm.Cond.code ({ cls := "CoatsOnChairs$Day", name := "comeBack", desc := "(I)V" } : Jvm.MethodName) prog_2_method_6_code (4 : Nat) (Option.none : Option Jvm.ClassFile.FieldType)) ∈ gT := gT_mem 432 rfl rfl
set_option maxRecDepth 100000 in
theorem q433 : (Jvm.Cond.methodLink "CoatsOnChairs$Day" (131 : Nat) ({ cls := "CoatsOnChairs$Day", name := "holderOf", desc := "(I)I" } : Jvm.MethodName)) ∈ gT := gT_mem 433 rfl rfl
set_option maxRecDepth 100000 in
theorem q434 : (Jvm.Cond.instanceMethod ({ cls := "CoatsOnChairs$Day", name := "holderOf", desc := "(I)I" } : Jvm.MethodName)) ∈ gT := gT_mem 434 rfl rfl
set_option maxRecDepth 100000 in
theorem q435 : (Jvm.Cond.selects "CoatsOnChairs$Day" ({ cls := "CoatsOnChairs$Day", name := "holderOf", desc := "(I)I" } : Jvm.MethodName) ({ cls := "CoatsOnChairs$Day", name := "holderOf", desc := "(I)I" } : Jvm.MethodName)) ∈ gT := gT_mem 435 rfl rfl
set_option maxRecDepth 100000 in
theorem q436 : (Jvm.Cond.code ({ cls := "CoatsOnChairs$Day", name := "holderOf", desc := "(I)I" } : Jvm.MethodName) prog_2_method_16_code (2 : Nat) (Option.some Jvm.ClassFile.FieldType.int)) ∈ gT := gT_mem 436 rfl rfl
set_option maxRecDepth 100000 in
theorem q437 : (Jvm.Cond.methodLink "CoatsOnChairs$Day" (135 : Nat) ({ cls := "CoatsOnChairs$Day", name := "sitDown", desc := "(II)V" } : Jvm.MethodName)) ∈ gT := gT_mem 437 rfl rfl
set_option maxRecDepth 100000 in
theorem q439 : (Jvm.Cond.instanceMethod ({ cls := "CoatsOnChairs$Day", name := "sitDown", desc := "(II)V" } : Jvm.MethodName)) ∈ gT := gT_mem 439 rfl rfl
set_option maxRecDepth 100000 in
theorem q440 : (Jvm.Cond.code ({ cls := "CoatsOnChairs$Day", name := "sitDown", desc := "(II)V" } : Jvm.MethodName) prog_2_method_11_code (3 : Nat) (Option.none : Option Jvm.ClassFile.FieldType)) ∈ gT := gT_mem 440 rfl rfl
set_option maxRecDepth 100000 in
theorem q441 : (Jvm.Cond.methodLink "CoatsOnChairs$Day" (119 : Nat) ({ cls := "CoatsOnChairs$Day", name := "freeHeld", desc := "(I)V" } : Jvm.MethodName)) ∈ gT := gT_mem 441 rfl rfl
set_option maxRecDepth 100000 in
theorem q443 : (Jvm.Cond.instanceMethod ({ cls := "CoatsOnChairs$Day", name := "freeHeld", desc := "(I)V" } : Jvm.MethodName)) ∈ gT := gT_mem 443 rfl rfl
set_option maxRecDepth 100000 in
theorem q444 : (Jvm.Cond.code ({ cls := "CoatsOnChairs$Day", name := "freeHeld", desc := "(I)V" } : Jvm.MethodName) prog_2_method_7_code (6 : Nat) (Option.none : Option Jvm.ClassFile.FieldType)) ∈ gT := gT_mem 444 rfl rfl
set_option maxRecDepth 100000 in
theorem q445 : (Jvm.Cond.methodLink "CoatsOnChairs$Day" (138 : Nat) ({ cls := "CoatsOnChairs$Room", name := "lampMinutes", desc := "()I" } : Jvm.MethodName)) ∈ gT := gT_mem 445 rfl rfl
set_option maxRecDepth 100000 in
theorem q446 : (Jvm.Cond.instanceMethod ({ cls := "CoatsOnChairs$Room", name := "lampMinutes", desc := "()I" } : Jvm.MethodName)) ∈ gT := gT_mem 446 rfl rfl
set_option maxRecDepth 100000 in
theorem q447 : (Jvm.Cond.selects "CoatsOnChairs$Room" ({ cls := "CoatsOnChairs$Room", name := "lampMinutes", desc := "()I" } : Jvm.MethodName) ({ cls := "CoatsOnChairs$Room", name := "lampMinutes", desc := "()I" } : Jvm.MethodName)) ∈ gT := gT_mem 447 rfl rfl
set_option maxRecDepth 100000 in
theorem q448 : (Jvm.Cond.code ({ cls := "CoatsOnChairs$Room", name := "lampMinutes", desc := "()I" } : Jvm.MethodName) prog_5_method_13_code (1 : Nat) (Option.some Jvm.ClassFile.FieldType.int)) ∈ gT := gT_mem 448 rfl rfl
set_option maxRecDepth 100000 in
theorem q449 : (Jvm.Cond.methodLink "CoatsOnChairs$Day" (141 : Nat) ({ cls := "CoatsOnChairs$Day", name := "offFor", desc := "(II)I" } : Jvm.MethodName)) ∈ gT := gT_mem 449 rfl rfl
set_option maxRecDepth 100000 in
theorem q451 : (Jvm.Cond.instanceMethod ({ cls := "CoatsOnChairs$Day", name := "offFor", desc := "(II)I" } : Jvm.MethodName)) ∈ gT := gT_mem 451 rfl rfl
set_option maxRecDepth 100000 in
theorem q452 : (Jvm.Cond.code ({ cls := "CoatsOnChairs$Day", name := "offFor", desc := "(II)I" } : Jvm.MethodName) prog_2_method_14_code (3 : Nat) (Option.some Jvm.ClassFile.FieldType.int)) ∈ gT := gT_mem 452 rfl rfl
set_option maxRecDepth 100000 in
theorem q453 : (Jvm.Cond.methodLink "CoatsOnChairs$Day" (122 : Nat) ({ cls := "CoatsOnChairs$Day", name := "seekSeats", desc := "(I)V" } : Jvm.MethodName)) ∈ gT := gT_mem 453 rfl rfl
set_option maxRecDepth 100000 in
theorem q455 : (Jvm.Cond.instanceMethod ({ cls := "CoatsOnChairs$Day", name := "seekSeats", desc := "(I)V" } : Jvm.MethodName)) ∈ gT := gT_mem 455 rfl rfl
set_option maxRecDepth 100000 in
theorem q456 : (Jvm.Cond.code ({ cls := "CoatsOnChairs$Day", name := "seekSeats", desc := "(I)V" } : Jvm.MethodName) prog_2_method_8_code (4 : Nat) (Option.none : Option Jvm.ClassFile.FieldType)) ∈ gT := gT_mem 456 rfl rfl
set_option maxRecDepth 100000 in
theorem q457 : (Jvm.Cond.methodLink "CoatsOnChairs$Day" (144 : Nat) ({ cls := "CoatsOnChairs$Day", name := "freeSeatFor", desc := "(I)I" } : Jvm.MethodName)) ∈ gT := gT_mem 457 rfl rfl
set_option maxRecDepth 100000 in
theorem q459 : (Jvm.Cond.instanceMethod ({ cls := "CoatsOnChairs$Day", name := "freeSeatFor", desc := "(I)I" } : Jvm.MethodName)) ∈ gT := gT_mem 459 rfl rfl
set_option maxRecDepth 100000 in
theorem q460 : (Jvm.Cond.code ({ cls := "CoatsOnChairs$Day", name := "freeSeatFor", desc := "(I)I" } : Jvm.MethodName) prog_2_method_9_code (7 : Nat) (Option.some Jvm.ClassFile.FieldType.int)) ∈ gT := gT_mem 460 rfl rfl
set_option maxRecDepth 100000 in
theorem q461 : (Jvm.Cond.methodLink "CoatsOnChairs$Day" (153 : Nat) ({ cls := "CoatsOnChairs$Room", name := "kindOf", desc := "(I)I" } : Jvm.MethodName)) ∈ gT := gT_mem 461 rfl rfl
set_option maxRecDepth 100000 in
theorem q462 : (Jvm.Cond.methodLink "CoatsOnChairs$Day" (156 : Nat) ({ cls := "java/lang/Integer", name := "bitCount", desc := "(I)I" } : Jvm.MethodName)) ∈ gT := gT_mem 462 rfl rfl
set_option maxRecDepth 100000 in
theorem q463 : (Jvm.Cond.static ({ cls := "java/lang/Integer", name := "bitCount", desc := "(I)I" } : Jvm.MethodName)) ∈ gT := gT_mem 463 rfl rfl
set_option maxRecDepth 100000 in
theorem q464 : (Jvm.Cond.code ({ cls := "java/lang/Integer", name := "bitCount", desc := "(I)I" } : Jvm.MethodName) prog_10_method_49_code (1 : Nat) (Option.some Jvm.ClassFile.FieldType.int)) ∈ gT := gT_mem 464 rfl rfl
set_option maxRecDepth 100000 in
theorem q465 : (Jvm.Cond.constant "java/lang/Integer" (265 : Nat) (1431655765 : Int32)) ∈ gT := gT_mem 465 rfl rfl
set_option maxRecDepth 100000 in
theorem q466 : (Jvm.Cond.constant "java/lang/Integer" (266 : Nat) (858993459 : Int32)) ∈ gT := gT_mem 466 rfl rfl
set_option maxRecDepth 100000 in
theorem q467 : (Jvm.Cond.constant "java/lang/Integer" (267 : Nat) (252645135 : Int32)) ∈ gT := gT_mem 467 rfl rfl
set_option maxRecDepth 100000 in
theorem q468 : (Jvm.Cond.methodLink "CoatsOnChairs$Day" (147 : Nat) ({ cls := "CoatsOnChairs$Day", name := "daredSeatFor", desc := "(II)I" } : Jvm.MethodName)) ∈ gT := gT_mem 468 rfl rfl
set_option maxRecDepth 100000 in
theorem q470 : (Jvm.Cond.instanceMethod ({ cls := "CoatsOnChairs$Day", name := "daredSeatFor", desc := "(II)I" } : Jvm.MethodName)) ∈ gT := gT_mem 470 rfl rfl
set_option maxRecDepth 100000 in
theorem q471 : (Jvm.Cond.code ({ cls := "CoatsOnChairs$Day", name := "daredSeatFor", desc := "(II)I" } : Jvm.MethodName) prog_2_method_10_code (5 : Nat) (Option.some Jvm.ClassFile.FieldType.int)) ∈ gT := gT_mem 471 rfl rfl
set_option maxRecDepth 100000 in
theorem q472 : (Jvm.Cond.methodLink "CoatsOnChairs$Day" (150 : Nat) ({ cls := "CoatsOnChairs$Room", name := "seekMinutes", desc := "()I" } : Jvm.MethodName)) ∈ gT := gT_mem 472 rfl rfl
set_option maxRecDepth 100000 in
theorem q473 : (Jvm.Cond.instanceMethod ({ cls := "CoatsOnChairs$Room", name := "seekMinutes", desc := "()I" } : Jvm.MethodName)) ∈ gT := gT_mem 473 rfl rfl
set_option maxRecDepth 100000 in
theorem q474 : (Jvm.Cond.selects "CoatsOnChairs$Room" ({ cls := "CoatsOnChairs$Room", name := "seekMinutes", desc := "()I" } : Jvm.MethodName) ({ cls := "CoatsOnChairs$Room", name := "seekMinutes", desc := "()I" } : Jvm.MethodName)) ∈ gT := gT_mem 474 rfl rfl
set_option maxRecDepth 100000 in
theorem q475 : (Jvm.Cond.code ({ cls := "CoatsOnChairs$Room", name := "seekMinutes", desc := "()I" } : Jvm.MethodName) prog_5_method_14_code (1 : Nat) (Option.some Jvm.ClassFile.FieldType.int)) ∈ gT := gT_mem 475 rfl rfl
set_option maxRecDepth 100000 in
theorem q476 : (Jvm.Cond.methodLink "CoatsOnChairs$Day" (125 : Nat) ({ cls := "CoatsOnChairs$Day", name := "sitOn", desc := "(I)V" } : Jvm.MethodName)) ∈ gT := gT_mem 476 rfl rfl
set_option maxRecDepth 100000 in
theorem q478 : (Jvm.Cond.instanceMethod ({ cls := "CoatsOnChairs$Day", name := "sitOn", desc := "(I)V" } : Jvm.MethodName)) ∈ gT := gT_mem 478 rfl rfl
set_option maxRecDepth 100000 in
theorem q479 : (Jvm.Cond.code ({ cls := "CoatsOnChairs$Day", name := "sitOn", desc := "(I)V" } : Jvm.MethodName) prog_2_method_12_code (4 : Nat) (Option.none : Option Jvm.ClassFile.FieldType)) ∈ gT := gT_mem 479 rfl rfl
set_option maxRecDepth 100000 in
theorem q480 : (Jvm.Cond.methodLink "CoatsOnChairs$Day" (128 : Nat) ({ cls := "CoatsOnChairs$Day", name := "countSeats", desc := "(I)V" } : Jvm.MethodName)) ∈ gT := gT_mem 480 rfl rfl
set_option maxRecDepth 100000 in
theorem q482 : (Jvm.Cond.instanceMethod ({ cls := "CoatsOnChairs$Day", name := "countSeats", desc := "(I)V" } : Jvm.MethodName)) ∈ gT := gT_mem 482 rfl rfl
set_option maxRecDepth 100000 in
theorem q483 : (Jvm.Cond.code ({ cls := "CoatsOnChairs$Day", name := "countSeats", desc := "(I)V" } : Jvm.MethodName) prog_2_method_13_code (4 : Nat) (Option.none : Option Jvm.ClassFile.FieldType)) ∈ gT := gT_mem 483 rfl rfl
set_option maxRecDepth 100000 in
theorem q484 : (Jvm.Cond.methodLink "CoatsOnChairs" (140 : Nat) ({ cls := "CoatsOnChairs$Day", name := "sitterOf", desc := "(I)I" } : Jvm.MethodName)) ∈ gT := gT_mem 484 rfl rfl
set_option maxRecDepth 100000 in
theorem q485 : (Jvm.Cond.instanceMethod ({ cls := "CoatsOnChairs$Day", name := "sitterOf", desc := "(I)I" } : Jvm.MethodName)) ∈ gT := gT_mem 485 rfl rfl
set_option maxRecDepth 100000 in
theorem q486 : (Jvm.Cond.selects "CoatsOnChairs$Day" ({ cls := "CoatsOnChairs$Day", name := "sitterOf", desc := "(I)I" } : Jvm.MethodName) ({ cls := "CoatsOnChairs$Day", name := "sitterOf", desc := "(I)I" } : Jvm.MethodName)) ∈ gT := gT_mem 486 rfl rfl
set_option maxRecDepth 100000 in
theorem q487 : (Jvm.Cond.code ({ cls := "CoatsOnChairs$Day", name := "sitterOf", desc := "(I)I" } : Jvm.MethodName) prog_2_method_15_code (2 : Nat) (Option.some Jvm.ClassFile.FieldType.int)) ∈ gT := gT_mem 487 rfl rfl
set_option maxRecDepth 100000 in
theorem q488 : (Jvm.Cond.methodLink "CoatsOnChairs" (143 : Nat) ({ cls := "CoatsOnChairs$Day", name := "holderOf", desc := "(I)I" } : Jvm.MethodName)) ∈ gT := gT_mem 488 rfl rfl
set_option maxRecDepth 100000 in
theorem q489 : (Jvm.Cond.methodLink "CoatsOnChairsLaw" (53 : Nat) ({ cls := "CoatsOnChairs", name := "does", desc := "(III)I" } : Jvm.MethodName)) ∈ gT := gT_mem 489 rfl rfl
set_option maxRecDepth 100000 in
theorem q490 : (Jvm.Cond.instanceMethod ({ cls := "CoatsOnChairs", name := "does", desc := "(III)I" } : Jvm.MethodName)) ∈ gT := gT_mem 490 rfl rfl
set_option maxRecDepth 100000 in
theorem q491 : (Jvm.Cond.selects "CoatsOnChairs" ({ cls := "CoatsOnChairs", name := "does", desc := "(III)I" } : Jvm.MethodName) ({ cls := "CoatsOnChairs", name := "does", desc := "(III)I" } : Jvm.MethodName)) ∈ gT := gT_mem 491 rfl rfl
set_option maxRecDepth 100000 in
theorem q492 : (Jvm.Cond.code ({ cls := "CoatsOnChairs", name := "does", desc := "(III)I" } : Jvm.MethodName) prog_1_method_10_code (4 : Nat) (Option.some Jvm.ClassFile.FieldType.int)) ∈ gT := gT_mem 492 rfl rfl
set_option maxRecDepth 100000 in
theorem q493 : (Jvm.Cond.methodLink "CoatsOnChairs" (146 : Nat) ({ cls := "CoatsOnChairs$Day", name := "stateOf", desc := "(I)I" } : Jvm.MethodName)) ∈ gT := gT_mem 493 rfl rfl
set_option maxRecDepth 100000 in
theorem q494 : (Jvm.Cond.instanceMethod ({ cls := "CoatsOnChairs$Day", name := "stateOf", desc := "(I)I" } : Jvm.MethodName)) ∈ gT := gT_mem 494 rfl rfl
set_option maxRecDepth 100000 in
theorem q495 : (Jvm.Cond.selects "CoatsOnChairs$Day" ({ cls := "CoatsOnChairs$Day", name := "stateOf", desc := "(I)I" } : Jvm.MethodName) ({ cls := "CoatsOnChairs$Day", name := "stateOf", desc := "(I)I" } : Jvm.MethodName)) ∈ gT := gT_mem 495 rfl rfl
set_option maxRecDepth 100000 in
theorem q496 : (Jvm.Cond.code ({ cls := "CoatsOnChairs$Day", name := "stateOf", desc := "(I)I" } : Jvm.MethodName) prog_2_method_17_code (2 : Nat) (Option.some Jvm.ClassFile.FieldType.int)) ∈ gT := gT_mem 496 rfl rfl
set_option maxRecDepth 100000 in
theorem q497 : (Jvm.Cond.methodLink "CoatsOnChairsLaw" (58 : Nat) ({ cls := "CoatsOnChairs", name := "day", desc := "(II)I" } : Jvm.MethodName)) ∈ gT := gT_mem 497 rfl rfl
set_option maxRecDepth 100000 in
theorem q498 : (Jvm.Cond.instanceMethod ({ cls := "CoatsOnChairs", name := "day", desc := "(II)I" } : Jvm.MethodName)) ∈ gT := gT_mem 498 rfl rfl
set_option maxRecDepth 100000 in
theorem q499 : (Jvm.Cond.selects "CoatsOnChairs" ({ cls := "CoatsOnChairs", name := "day", desc := "(II)I" } : Jvm.MethodName) ({ cls := "CoatsOnChairs", name := "day", desc := "(II)I" } : Jvm.MethodName)) ∈ gT := gT_mem 499 rfl rfl
set_option maxRecDepth 100000 in
theorem q500 : (Jvm.Cond.code ({ cls := "CoatsOnChairs", name := "day", desc := "(II)I" } : Jvm.MethodName) prog_1_method_11_code (3 : Nat) (Option.some Jvm.ClassFile.FieldType.int)) ∈ gT := gT_mem 500 rfl rfl
set_option maxRecDepth 100000 in
theorem q501 : (Jvm.Cond.methodLink "CoatsOnChairs" (149 : Nat) ({ cls := "CoatsOnChairs", name := "runWhole", desc := "(I)V" } : Jvm.MethodName)) ∈ gT := gT_mem 501 rfl rfl
set_option maxRecDepth 100000 in
theorem q503 : (Jvm.Cond.instanceMethod ({ cls := "CoatsOnChairs", name := "runWhole", desc := "(I)V" } : Jvm.MethodName)) ∈ gT := gT_mem 503 rfl rfl
set_option maxRecDepth 100000 in
theorem q504 : (Jvm.Cond.code ({ cls := "CoatsOnChairs", name := "runWhole", desc := "(I)V" } : Jvm.MethodName) prog_1_method_29_code (2 : Nat) (Option.none : Option Jvm.ClassFile.FieldType)) ∈ gT := gT_mem 504 rfl rfl
set_option maxRecDepth 100000 in
theorem q505 : (Jvm.Cond.methodLink "CoatsOnChairs" (152 : Nat) ({ cls := "CoatsOnChairs$Day", name := "used", desc := "()I" } : Jvm.MethodName)) ∈ gT := gT_mem 505 rfl rfl
set_option maxRecDepth 100000 in
theorem q506 : (Jvm.Cond.instanceMethod ({ cls := "CoatsOnChairs$Day", name := "used", desc := "()I" } : Jvm.MethodName)) ∈ gT := gT_mem 506 rfl rfl
set_option maxRecDepth 100000 in
theorem q507 : (Jvm.Cond.selects "CoatsOnChairs$Day" ({ cls := "CoatsOnChairs$Day", name := "used", desc := "()I" } : Jvm.MethodName) ({ cls := "CoatsOnChairs$Day", name := "used", desc := "()I" } : Jvm.MethodName)) ∈ gT := gT_mem 507 rfl rfl
set_option maxRecDepth 100000 in
theorem q508 : (Jvm.Cond.code ({ cls := "CoatsOnChairs$Day", name := "used", desc := "()I" } : Jvm.MethodName) prog_2_method_19_code (1 : Nat) (Option.some Jvm.ClassFile.FieldType.int)) ∈ gT := gT_mem 508 rfl rfl
set_option maxRecDepth 100000 in
theorem q509 : (Jvm.Cond.methodLink "CoatsOnChairs$Day" (161 : Nat) ({ cls := "CoatsOnChairs$Day", name := "seenEvery", desc := "(I)I" } : Jvm.MethodName)) ∈ gT := gT_mem 509 rfl rfl
set_option maxRecDepth 100000 in
theorem q510 : (Jvm.Cond.instanceMethod ({ cls := "CoatsOnChairs$Day", name := "seenEvery", desc := "(I)I" } : Jvm.MethodName)) ∈ gT := gT_mem 510 rfl rfl
set_option maxRecDepth 100000 in
theorem q511 : (Jvm.Cond.selects "CoatsOnChairs$Day" ({ cls := "CoatsOnChairs$Day", name := "seenEvery", desc := "(I)I" } : Jvm.MethodName) ({ cls := "CoatsOnChairs$Day", name := "seenEvery", desc := "(I)I" } : Jvm.MethodName)) ∈ gT := gT_mem 511 rfl rfl
set_option maxRecDepth 100000 in
theorem q512 : (Jvm.Cond.code ({ cls := "CoatsOnChairs$Day", name := "seenEvery", desc := "(I)I" } : Jvm.MethodName) prog_2_method_23_code (4 : Nat) (Option.some Jvm.ClassFile.FieldType.int)) ∈ gT := gT_mem 512 rfl rfl
set_option maxRecDepth 100000 in
theorem q513 : (Jvm.Cond.methodLink "CoatsOnChairs" (155 : Nat) ({ cls := "CoatsOnChairs$Day", name := "empty", desc := "()I" } : Jvm.MethodName)) ∈ gT := gT_mem 513 rfl rfl
set_option maxRecDepth 100000 in
theorem q514 : (Jvm.Cond.instanceMethod ({ cls := "CoatsOnChairs$Day", name := "empty", desc := "()I" } : Jvm.MethodName)) ∈ gT := gT_mem 514 rfl rfl
set_option maxRecDepth 100000 in
theorem q515 : (Jvm.Cond.selects "CoatsOnChairs$Day" ({ cls := "CoatsOnChairs$Day", name := "empty", desc := "()I" } : Jvm.MethodName) ({ cls := "CoatsOnChairs$Day", name := "empty", desc := "()I" } : Jvm.MethodName)) ∈ gT := gT_mem 515 rfl rfl
set_option maxRecDepth 100000 in
theorem q516 : (Jvm.Cond.code ({ cls := "CoatsOnChairs$Day", name := "empty", desc := "()I" } : Jvm.MethodName) prog_2_method_20_code (1 : Nat) (Option.some Jvm.ClassFile.FieldType.int)) ∈ gT := gT_mem 516 rfl rfl
set_option maxRecDepth 100000 in
theorem q517 : (Jvm.Cond.methodLink "CoatsOnChairs" (158 : Nat) ({ cls := "CoatsOnChairs$Day", name := "shutOut", desc := "()I" } : Jvm.MethodName)) ∈ gT := gT_mem 517 rfl rfl
set_option maxRecDepth 100000 in
theorem q518 : (Jvm.Cond.instanceMethod ({ cls := "CoatsOnChairs$Day", name := "shutOut", desc := "()I" } : Jvm.MethodName)) ∈ gT := gT_mem 518 rfl rfl
set_option maxRecDepth 100000 in
theorem q519 : (Jvm.Cond.selects "CoatsOnChairs$Day" ({ cls := "CoatsOnChairs$Day", name := "shutOut", desc := "()I" } : Jvm.MethodName) ({ cls := "CoatsOnChairs$Day", name := "shutOut", desc := "()I" } : Jvm.MethodName)) ∈ gT := gT_mem 519 rfl rfl
set_option maxRecDepth 100000 in
theorem q520 : (Jvm.Cond.code ({ cls := "CoatsOnChairs$Day", name := "shutOut", desc := "()I" } : Jvm.MethodName) prog_2_method_21_code (1 : Nat) (Option.some Jvm.ClassFile.FieldType.int)) ∈ gT := gT_mem 520 rfl rfl
set_option maxRecDepth 100000 in
theorem q521 : (Jvm.Cond.methodLink "CoatsOnChairs" (161 : Nat) ({ cls := "java/lang/Integer", name := "bitCount", desc := "(I)I" } : Jvm.MethodName)) ∈ gT := gT_mem 521 rfl rfl
set_option maxRecDepth 100000 in
theorem q522 : (Jvm.Cond.methodLink "CoatsOnChairs" (166 : Nat) ({ cls := "CoatsOnChairs$Day", name := "thrownOut", desc := "()I" } : Jvm.MethodName)) ∈ gT := gT_mem 522 rfl rfl
set_option maxRecDepth 100000 in
theorem q523 : (Jvm.Cond.instanceMethod ({ cls := "CoatsOnChairs$Day", name := "thrownOut", desc := "()I" } : Jvm.MethodName)) ∈ gT := gT_mem 523 rfl rfl
set_option maxRecDepth 100000 in
theorem q524 : (Jvm.Cond.selects "CoatsOnChairs$Day" ({ cls := "CoatsOnChairs$Day", name := "thrownOut", desc := "()I" } : Jvm.MethodName) ({ cls := "CoatsOnChairs$Day", name := "thrownOut", desc := "()I" } : Jvm.MethodName)) ∈ gT := gT_mem 524 rfl rfl
set_option maxRecDepth 100000 in
theorem q525 : (Jvm.Cond.code ({ cls := "CoatsOnChairs$Day", name := "thrownOut", desc := "()I" } : Jvm.MethodName) prog_2_method_22_code (1 : Nat) (Option.some Jvm.ClassFile.FieldType.int)) ∈ gT := gT_mem 525 rfl rfl
set_option maxRecDepth 100000 in
theorem q526 : (Jvm.Cond.methodLink "CoatsOnChairsLaw" (62 : Nat) ({ cls := "CoatsOnChairs", name := "sat", desc := "(II)I" } : Jvm.MethodName)) ∈ gT := gT_mem 526 rfl rfl
set_option maxRecDepth 100000 in
theorem q527 : (Jvm.Cond.instanceMethod ({ cls := "CoatsOnChairs", name := "sat", desc := "(II)I" } : Jvm.MethodName)) ∈ gT := gT_mem 527 rfl rfl
set_option maxRecDepth 100000 in
theorem q528 : (Jvm.Cond.selects "CoatsOnChairs" ({ cls := "CoatsOnChairs", name := "sat", desc := "(II)I" } : Jvm.MethodName) ({ cls := "CoatsOnChairs", name := "sat", desc := "(II)I" } : Jvm.MethodName)) ∈ gT := gT_mem 528 rfl rfl
set_option maxRecDepth 100000 in
theorem q529 : (Jvm.Cond.code ({ cls := "CoatsOnChairs", name := "sat", desc := "(II)I" } : Jvm.MethodName) prog_1_method_12_code (3 : Nat) (Option.some Jvm.ClassFile.FieldType.int)) ∈ gT := gT_mem 529 rfl rfl
set_option maxRecDepth 100000 in
theorem q530 : (Jvm.Cond.methodLink "CoatsOnChairs" (169 : Nat) ({ cls := "CoatsOnChairs$Day", name := "minutesOf", desc := "(I)I" } : Jvm.MethodName)) ∈ gT := gT_mem 530 rfl rfl
set_option maxRecDepth 100000 in
theorem q531 : (Jvm.Cond.instanceMethod ({ cls := "CoatsOnChairs$Day", name := "minutesOf", desc := "(I)I" } : Jvm.MethodName)) ∈ gT := gT_mem 531 rfl rfl
set_option maxRecDepth 100000 in
theorem q532 : (Jvm.Cond.selects "CoatsOnChairs$Day" ({ cls := "CoatsOnChairs$Day", name := "minutesOf", desc := "(I)I" } : Jvm.MethodName) ({ cls := "CoatsOnChairs$Day", name := "minutesOf", desc := "(I)I" } : Jvm.MethodName)) ∈ gT := gT_mem 532 rfl rfl
set_option maxRecDepth 100000 in
theorem q533 : (Jvm.Cond.code ({ cls := "CoatsOnChairs$Day", name := "minutesOf", desc := "(I)I" } : Jvm.MethodName) prog_2_method_18_code (2 : Nat) (Option.some Jvm.ClassFile.FieldType.int)) ∈ gT := gT_mem 533 rfl rfl
set_option maxRecDepth 100000 in
theorem q534 : (Jvm.Cond.methodLink "CoatsOnChairsLaw" (66 : Nat) ({ cls := "CoatsOnChairs", name := "bettered", desc := "()I" } : Jvm.MethodName)) ∈ gT := gT_mem 534 rfl rfl
set_option maxRecDepth 100000 in
theorem q535 : (Jvm.Cond.instanceMethod ({ cls := "CoatsOnChairs", name := "bettered", desc := "()I" } : Jvm.MethodName)) ∈ gT := gT_mem 535 rfl rfl
set_option maxRecDepth 100000 in
theorem q536 : (Jvm.Cond.selects "CoatsOnChairs" ({ cls := "CoatsOnChairs", name := "bettered", desc := "()I" } : Jvm.MethodName) ({ cls := "CoatsOnChairs", name := "bettered", desc := "()I" } : Jvm.MethodName)) ∈ gT := gT_mem 536 rfl rfl
set_option maxRecDepth 100000 in
theorem q537 : (Jvm.Cond.code ({ cls := "CoatsOnChairs", name := "bettered", desc := "()I" } : Jvm.MethodName) prog_1_method_13_code (4 : Nat) (Option.some Jvm.ClassFile.FieldType.int)) ∈ gT := gT_mem 537 rfl rfl
set_option maxRecDepth 100000 in
theorem q538 : (Jvm.Cond.methodLink "CoatsOnChairs" (172 : Nat) ({ cls := "CoatsOnChairs", name := "betters", desc := "(II)Z" } : Jvm.MethodName)) ∈ gT := gT_mem 538 rfl rfl
set_option maxRecDepth 100000 in
theorem q540 : (Jvm.Cond.instanceMethod ({ cls := "CoatsOnChairs", name := "betters", desc := "(II)Z" } : Jvm.MethodName)) ∈ gT := gT_mem 540 rfl rfl
set_option maxRecDepth 100000 in
theorem q541 : (Jvm.Cond.code ({ cls := "CoatsOnChairs", name := "betters", desc := "(II)Z" } : Jvm.MethodName) prog_1_method_28_code (6 : Nat) (Option.some Jvm.ClassFile.FieldType.boolean)) ∈ gT := gT_mem 541 rfl rfl
set_option maxRecDepth 100000 in
theorem q542 : (Jvm.Cond.methodLink "CoatsOnChairsLaw" (70 : Nat) ({ cls := "CoatsOnChairs", name := "rest", desc := "(II)I" } : Jvm.MethodName)) ∈ gT := gT_mem 542 rfl rfl
set_option maxRecDepth 100000 in
theorem q543 : (Jvm.Cond.instanceMethod ({ cls := "CoatsOnChairs", name := "rest", desc := "(II)I" } : Jvm.MethodName)) ∈ gT := gT_mem 543 rfl rfl
set_option maxRecDepth 100000 in
theorem q544 : (Jvm.Cond.selects "CoatsOnChairs" ({ cls := "CoatsOnChairs", name := "rest", desc := "(II)I" } : Jvm.MethodName) ({ cls := "CoatsOnChairs", name := "rest", desc := "(II)I" } : Jvm.MethodName)) ∈ gT := gT_mem 544 rfl rfl
set_option maxRecDepth 100000 in
theorem q545 : (Jvm.Cond.code ({ cls := "CoatsOnChairs", name := "rest", desc := "(II)I" } : Jvm.MethodName) prog_1_method_14_code (3 : Nat) (Option.some Jvm.ClassFile.FieldType.int)) ∈ gT := gT_mem 545 rfl rfl
set_option maxRecDepth 100000 in
theorem q546 : (Jvm.Cond.methodLink "CoatsOnChairs" (176 : Nat) ({ cls := "CoatsOnChairs$Game", name := "playBy", desc := "(I)V" } : Jvm.MethodName)) ∈ gT := gT_mem 546 rfl rfl
set_option maxRecDepth 100000 in
theorem q547 : (Jvm.Cond.instanceMethod ({ cls := "CoatsOnChairs$Game", name := "playBy", desc := "(I)V" } : Jvm.MethodName)) ∈ gT := gT_mem 547 rfl rfl
set_option maxRecDepth 100000 in
theorem q548 : (Jvm.Cond.selects "CoatsOnChairs$Game" ({ cls := "CoatsOnChairs$Game", name := "playBy", desc := "(I)V" } : Jvm.MethodName) ({ cls := "CoatsOnChairs$Game", name := "playBy", desc := "(I)V" } : Jvm.MethodName)) ∈ gT := gT_mem 548 rfl rfl
set_option maxRecDepth 100000 in
theorem q549 : (Jvm.Cond.code ({ cls := "CoatsOnChairs$Game", name := "playBy", desc := "(I)V" } : Jvm.MethodName) prog_3_method_3_code (3 : Nat) (Option.none : Option Jvm.ClassFile.FieldType)) ∈ gT := gT_mem 549 rfl rfl
set_option maxRecDepth 100000 in
theorem q550 : (Jvm.Cond.constantLong "CoatsOnChairs$Game" (30 : Nat) (-1 : Int64)) ∈ gT := gT_mem 550 rfl rfl
set_option maxRecDepth 100000 in
theorem q551 : (Jvm.Cond.methodLink "CoatsOnChairs$Game" (32 : Nat) ({ cls := "java/util/Arrays", name := "fill", desc := "([JJ)V" } : Jvm.MethodName)) ∈ gT := gT_mem 551 rfl rfl
set_option maxRecDepth 100000 in
theorem q552 : (Jvm.Cond.static ({ cls := "java/util/Arrays", name := "fill", desc := "([JJ)V" } : Jvm.MethodName)) ∈ gT := gT_mem 552 rfl rfl
set_option maxRecDepth 100000 in
theorem q553 : (Jvm.Cond.code ({ cls := "java/util/Arrays", name := "fill", desc := "([JJ)V" } : Jvm.MethodName) prog_13_method_101_code (5 : Nat) (Option.none : Option Jvm.ClassFile.FieldType)) ∈ gT := gT_mem 553 rfl rfl
set_option maxRecDepth 100000 in
theorem q554 : (Jvm.Cond.methodLink "CoatsOnChairs$Game" (38 : Nat) ({ cls := "CoatsOnChairs$Room", name := "readerCount", desc := "()I" } : Jvm.MethodName)) ∈ gT := gT_mem 554 rfl rfl
set_option maxRecDepth 100000 in
theorem q555 : (Jvm.Cond.methodLink "CoatsOnChairs$Game" (44 : Nat) ({ cls := "CoatsOnChairs$Room", name := "goesOff", desc := "(I)Z" } : Jvm.MethodName)) ∈ gT := gT_mem 555 rfl rfl
set_option maxRecDepth 100000 in
theorem q556 : (Jvm.Cond.instanceMethod ({ cls := "CoatsOnChairs$Room", name := "goesOff", desc := "(I)Z" } : Jvm.MethodName)) ∈ gT := gT_mem 556 rfl rfl
set_option maxRecDepth 100000 in
theorem q557 : (Jvm.Cond.selects "CoatsOnChairs$Room" ({ cls := "CoatsOnChairs$Room", name := "goesOff", desc := "(I)Z" } : Jvm.MethodName) ({ cls := "CoatsOnChairs$Room", name := "goesOff", desc := "(I)Z" } : Jvm.MethodName)) ∈ gT := gT_mem 557 rfl rfl
set_option maxRecDepth 100000 in
theorem q558 : (Jvm.Cond.code ({ cls := "CoatsOnChairs$Room", name := "goesOff", desc := "(I)Z" } : Jvm.MethodName) prog_5_method_19_code (2 : Nat) (Option.some Jvm.ClassFile.FieldType.boolean)) ∈ gT := gT_mem 558 rfl rfl
set_option maxRecDepth 100000 in
theorem q559 : (Jvm.Cond.methodLink "CoatsOnChairs$Room" (49 : Nat) ({ cls := "CoatsOnChairs$Room", name := "number", desc := "(II)I" } : Jvm.MethodName)) ∈ gT := gT_mem 559 rfl rfl
set_option maxRecDepth 100000 in
theorem q560 : (Jvm.Cond.methodLink "CoatsOnChairs" (179 : Nat) ({ cls := "CoatsOnChairs$Game", name := "isRest", desc := "(I)Z" } : Jvm.MethodName)) ∈ gT := gT_mem 560 rfl rfl
set_option maxRecDepth 100000 in
theorem q561 : (Jvm.Cond.instanceMethod ({ cls := "CoatsOnChairs$Game", name := "isRest", desc := "(I)Z" } : Jvm.MethodName)) ∈ gT := gT_mem 561 rfl rfl
set_option maxRecDepth 100000 in
theorem q562 : (Jvm.Cond.selects "CoatsOnChairs$Game" ({ cls := "CoatsOnChairs$Game", name := "isRest", desc := "(I)Z" } : Jvm.MethodName) ({ cls := "CoatsOnChairs$Game", name := "isRest", desc := "(I)Z" } : Jvm.MethodName)) ∈ gT := gT_mem 562 rfl rfl
set_option maxRecDepth 100000 in
theorem q563 : (Jvm.Cond.code ({ cls := "CoatsOnChairs$Game", name := "isRest", desc := "(I)Z" } : Jvm.MethodName) prog_3_method_4_code (3 : Nat) (Option.some Jvm.ClassFile.FieldType.boolean)) ∈ gT := gT_mem 563 rfl rfl
set_option maxRecDepth 100000 in
theorem q564 : (Jvm.Cond.methodLink "CoatsOnChairs$Game" (48 : Nat) ({ cls := "CoatsOnChairs$Game", name := "minutesIn", desc := "(II)I" } : Jvm.MethodName)) ∈ gT := gT_mem 564 rfl rfl
set_option maxRecDepth 100000 in
theorem q566 : (Jvm.Cond.instanceMethod ({ cls := "CoatsOnChairs$Game", name := "minutesIn", desc := "(II)I" } : Jvm.MethodName)) ∈ gT := gT_mem 566 rfl rfl
set_option maxRecDepth 100000 in
theorem q567 : (Jvm.Cond.code ({ cls := "CoatsOnChairs$Game", name := "minutesIn", desc := "(II)I" } : Jvm.MethodName) prog_3_method_5_code (4 : Nat) (Option.some Jvm.ClassFile.FieldType.int)) ∈ gT := gT_mem 567 rfl rfl
set_option maxRecDepth 100000 in
theorem q568 : (Jvm.Cond.methodLink "CoatsOnChairs$Game" (52 : Nat) ({ cls := "CoatsOnChairs$Day", name := "open", desc := "(LCoatsOnChairs$Room;II)V" } : Jvm.MethodName)) ∈ gT := gT_mem 568 rfl rfl
set_option maxRecDepth 100000 in
theorem q569 : (Jvm.Cond.methodLink "CoatsOnChairs$Game" (58 : Nat) ({ cls := "CoatsOnChairs$Day", name := "runTo", desc := "(I)V" } : Jvm.MethodName)) ∈ gT := gT_mem 569 rfl rfl
set_option maxRecDepth 100000 in
theorem q570 : (Jvm.Cond.methodLink "CoatsOnChairs$Game" (62 : Nat) ({ cls := "CoatsOnChairs$Day", name := "packedMinutes", desc := "()J" } : Jvm.MethodName)) ∈ gT := gT_mem 570 rfl rfl
set_option maxRecDepth 100000 in
theorem q571 : (Jvm.Cond.instanceMethod ({ cls := "CoatsOnChairs$Day", name := "packedMinutes", desc := "()J" } : Jvm.MethodName)) ∈ gT := gT_mem 571 rfl rfl
set_option maxRecDepth 100000 in
theorem q572 : (Jvm.Cond.selects "CoatsOnChairs$Day" ({ cls := "CoatsOnChairs$Day", name := "packedMinutes", desc := "()J" } : Jvm.MethodName) ({ cls := "CoatsOnChairs$Day", name := "packedMinutes", desc := "()J" } : Jvm.MethodName)) ∈ gT := gT_mem 572 rfl rfl
set_option maxRecDepth 100000 in
theorem q573 : (Jvm.Cond.code ({ cls := "CoatsOnChairs$Day", name := "packedMinutes", desc := "()J" } : Jvm.MethodName) prog_2_method_24_code (4 : Nat) (Option.some Jvm.ClassFile.FieldType.long)) ∈ gT := gT_mem 573 rfl rfl
set_option maxRecDepth 100000 in
theorem q574 : (Jvm.Cond.methodLink "CoatsOnChairsLaw" (74 : Nat) ({ cls := "CoatsOnChairs", name := "rests", desc := "(II)I" } : Jvm.MethodName)) ∈ gT := gT_mem 574 rfl rfl
set_option maxRecDepth 100000 in
theorem q575 : (Jvm.Cond.instanceMethod ({ cls := "CoatsOnChairs", name := "rests", desc := "(II)I" } : Jvm.MethodName)) ∈ gT := gT_mem 575 rfl rfl
set_option maxRecDepth 100000 in
theorem q576 : (Jvm.Cond.selects "CoatsOnChairs" ({ cls := "CoatsOnChairs", name := "rests", desc := "(II)I" } : Jvm.MethodName) ({ cls := "CoatsOnChairs", name := "rests", desc := "(II)I" } : Jvm.MethodName)) ∈ gT := gT_mem 576 rfl rfl
set_option maxRecDepth 100000 in
theorem q577 : (Jvm.Cond.code ({ cls := "CoatsOnChairs", name := "rests", desc := "(II)I" } : Jvm.MethodName) prog_1_method_15_code (7 : Nat) (Option.some Jvm.ClassFile.FieldType.int)) ∈ gT := gT_mem 577 rfl rfl
set_option maxRecDepth 100000 in
theorem q578 : (Jvm.Cond.methodLink "CoatsOnChairsLaw" (78 : Nat) ({ cls := "CoatsOnChairs", name := "rounds", desc := "(II)I" } : Jvm.MethodName)) ∈ gT := gT_mem 578 rfl rfl
set_option maxRecDepth 100000 in
theorem q579 : (Jvm.Cond.instanceMethod ({ cls := "CoatsOnChairs", name := "rounds", desc := "(II)I" } : Jvm.MethodName)) ∈ gT := gT_mem 579 rfl rfl
set_option maxRecDepth 100000 in
theorem q580 : (Jvm.Cond.selects "CoatsOnChairs" ({ cls := "CoatsOnChairs", name := "rounds", desc := "(II)I" } : Jvm.MethodName) ({ cls := "CoatsOnChairs", name := "rounds", desc := "(II)I" } : Jvm.MethodName)) ∈ gT := gT_mem 580 rfl rfl
set_option maxRecDepth 100000 in
theorem q581 : (Jvm.Cond.code ({ cls := "CoatsOnChairs", name := "rounds", desc := "(II)I" } : Jvm.MethodName) prog_1_method_16_code (3 : Nat) (Option.some Jvm.ClassFile.FieldType.int)) ∈ gT := gT_mem 581 rfl rfl
set_option maxRecDepth 100000 in
theorem q582 : (Jvm.Cond.methodLink "CoatsOnChairs" (182 : Nat) ({ cls := "CoatsOnChairs$Day", name := "seenEvery", desc := "(I)I" } : Jvm.MethodName)) ∈ gT := gT_mem 582 rfl rfl
set_option maxRecDepth 100000 in
theorem q583 : (Jvm.Cond.methodLink "CoatsOnChairsLaw" (82 : Nat) ({ cls := "CoatsOnChairs", name := "often", desc := "(II)I" } : Jvm.MethodName)) ∈ gT := gT_mem 583 rfl rfl
set_option maxRecDepth 100000 in
theorem q584 : (Jvm.Cond.instanceMethod ({ cls := "CoatsOnChairs", name := "often", desc := "(II)I" } : Jvm.MethodName)) ∈ gT := gT_mem 584 rfl rfl
set_option maxRecDepth 100000 in
theorem q585 : (Jvm.Cond.selects "CoatsOnChairs" ({ cls := "CoatsOnChairs", name := "often", desc := "(II)I" } : Jvm.MethodName) ({ cls := "CoatsOnChairs", name := "often", desc := "(II)I" } : Jvm.MethodName)) ∈ gT := gT_mem 585 rfl rfl
set_option maxRecDepth 100000 in
theorem q586 : (Jvm.Cond.code ({ cls := "CoatsOnChairs", name := "often", desc := "(II)I" } : Jvm.MethodName) prog_1_method_17_code (5 : Nat) (Option.some Jvm.ClassFile.FieldType.int)) ∈ gT := gT_mem 586 rfl rfl
set_option maxRecDepth 100000 in
theorem q587 : (Jvm.Cond.methodLink "CoatsOnChairs" (185 : Nat) ({ cls := "java/lang/Math", name := "abs", desc := "(I)I" } : Jvm.MethodName)) ∈ gT := gT_mem 587 rfl rfl
set_option maxRecDepth 100000 in
theorem q588 : (Jvm.Cond.static ({ cls := "java/lang/Math", name := "abs", desc := "(I)I" } : Jvm.MethodName)) ∈ gT := gT_mem 588 rfl rfl
set_option maxRecDepth 100000 in
theorem q589 : (Jvm.Cond.code ({ cls := "java/lang/Math", name := "abs", desc := "(I)I" } : Jvm.MethodName) prog_11_method_59_code (1 : Nat) (Option.some Jvm.ClassFile.FieldType.int)) ∈ gT := gT_mem 589 rfl rfl
set_option maxRecDepth 100000 in
theorem q590 : (Jvm.Cond.methodLink "CoatsOnChairsLaw" (86 : Nat) ({ cls := "CoatsOnChairs", name := "porter", desc := "(I)I" } : Jvm.MethodName)) ∈ gT := gT_mem 590 rfl rfl
set_option maxRecDepth 100000 in
theorem q591 : (Jvm.Cond.instanceMethod ({ cls := "CoatsOnChairs", name := "porter", desc := "(I)I" } : Jvm.MethodName)) ∈ gT := gT_mem 591 rfl rfl
set_option maxRecDepth 100000 in
theorem q592 : (Jvm.Cond.selects "CoatsOnChairs" ({ cls := "CoatsOnChairs", name := "porter", desc := "(I)I" } : Jvm.MethodName) ({ cls := "CoatsOnChairs", name := "porter", desc := "(I)I" } : Jvm.MethodName)) ∈ gT := gT_mem 592 rfl rfl
set_option maxRecDepth 100000 in
theorem q593 : (Jvm.Cond.code ({ cls := "CoatsOnChairs", name := "porter", desc := "(I)I" } : Jvm.MethodName) prog_1_method_18_code (3 : Nat) (Option.some Jvm.ClassFile.FieldType.int)) ∈ gT := gT_mem 593 rfl rfl
set_option maxRecDepth 100000 in
theorem q594 : (Jvm.Cond.methodLink "CoatsOnChairs" (190 : Nat) ({ cls := "CoatsOnChairs$Room", name := "cardMinutes", desc := "()I" } : Jvm.MethodName)) ∈ gT := gT_mem 594 rfl rfl
set_option maxRecDepth 100000 in
theorem q595 : (Jvm.Cond.methodLink "CoatsOnChairs" (193 : Nat) ({ cls := "CoatsOnChairs", name := "shutOutByCards", desc := "(II)I" } : Jvm.MethodName)) ∈ gT := gT_mem 595 rfl rfl
set_option maxRecDepth 100000 in
theorem q597 : (Jvm.Cond.instanceMethod ({ cls := "CoatsOnChairs", name := "shutOutByCards", desc := "(II)I" } : Jvm.MethodName)) ∈ gT := gT_mem 597 rfl rfl
set_option maxRecDepth 100000 in
theorem q598 : (Jvm.Cond.code ({ cls := "CoatsOnChairs", name := "shutOutByCards", desc := "(II)I" } : Jvm.MethodName) prog_1_method_30_code (3 : Nat) (Option.some Jvm.ClassFile.FieldType.int)) ∈ gT := gT_mem 598 rfl rfl
set_option maxRecDepth 100000 in
theorem q599 : (Jvm.Cond.methodLink "CoatsOnChairs" (223 : Nat) ({ cls := "CoatsOnChairs$Day", name := "useCards", desc := "(II)V" } : Jvm.MethodName)) ∈ gT := gT_mem 599 rfl rfl
set_option maxRecDepth 100000 in
theorem q600 : (Jvm.Cond.methodLink "CoatsOnChairsLaw" (90 : Nat) ({ cls := "CoatsOnChairs", name := "card", desc := "(I)I" } : Jvm.MethodName)) ∈ gT := gT_mem 600 rfl rfl
set_option maxRecDepth 100000 in
theorem q601 : (Jvm.Cond.instanceMethod ({ cls := "CoatsOnChairs", name := "card", desc := "(I)I" } : Jvm.MethodName)) ∈ gT := gT_mem 601 rfl rfl
set_option maxRecDepth 100000 in
theorem q602 : (Jvm.Cond.selects "CoatsOnChairs" ({ cls := "CoatsOnChairs", name := "card", desc := "(I)I" } : Jvm.MethodName) ({ cls := "CoatsOnChairs", name := "card", desc := "(I)I" } : Jvm.MethodName)) ∈ gT := gT_mem 602 rfl rfl
set_option maxRecDepth 100000 in
theorem q603 : (Jvm.Cond.code ({ cls := "CoatsOnChairs", name := "card", desc := "(I)I" } : Jvm.MethodName) prog_1_method_19_code (3 : Nat) (Option.some Jvm.ClassFile.FieldType.int)) ∈ gT := gT_mem 603 rfl rfl
set_option maxRecDepth 100000 in
theorem q604 : (Jvm.Cond.methodLink "CoatsOnChairs" (196 : Nat) ({ cls := "CoatsOnChairs$Room", name := "porterMinutes", desc := "()I" } : Jvm.MethodName)) ∈ gT := gT_mem 604 rfl rfl
set_option maxRecDepth 100000 in
theorem q605 : (Jvm.Cond.methodLink "CoatsOnChairsLaw" (94 : Nat) ({ cls := "CoatsOnChairs", name := "booked", desc := "(IIII)J" } : Jvm.MethodName)) ∈ gT := gT_mem 605 rfl rfl
set_option maxRecDepth 100000 in
theorem q606 : (Jvm.Cond.instanceMethod ({ cls := "CoatsOnChairs", name := "booked", desc := "(IIII)J" } : Jvm.MethodName)) ∈ gT := gT_mem 606 rfl rfl
set_option maxRecDepth 100000 in
theorem q607 : (Jvm.Cond.selects "CoatsOnChairs" ({ cls := "CoatsOnChairs", name := "booked", desc := "(IIII)J" } : Jvm.MethodName) ({ cls := "CoatsOnChairs", name := "booked", desc := "(IIII)J" } : Jvm.MethodName)) ∈ gT := gT_mem 607 rfl rfl
set_option maxRecDepth 100000 in
theorem q608 : (Jvm.Cond.code ({ cls := "CoatsOnChairs", name := "booked", desc := "(IIII)J" } : Jvm.MethodName) prog_1_method_20_code (11 : Nat) (Option.some Jvm.ClassFile.FieldType.long)) ∈ gT := gT_mem 608 rfl rfl
set_option maxRecDepth 100000 in
theorem q609 : (Jvm.Cond.constantLong "CoatsOnChairs" (199 : Nat) (-1 : Int64)) ∈ gT := gT_mem 609 rfl rfl
set_option maxRecDepth 100000 in
theorem q610 : (Jvm.Cond.methodLink "CoatsOnChairs" (201 : Nat) ({ cls := "CoatsOnChairs$Odds", name := "noMoreThan", desc := "(III)J" } : Jvm.MethodName)) ∈ gT := gT_mem 610 rfl rfl
set_option maxRecDepth 100000 in
theorem q611 : (Jvm.Cond.static ({ cls := "CoatsOnChairs$Odds", name := "noMoreThan", desc := "(III)J" } : Jvm.MethodName)) ∈ gT := gT_mem 611 rfl rfl
set_option maxRecDepth 100000 in
theorem q612 : (Jvm.Cond.code ({ cls := "CoatsOnChairs$Odds", name := "noMoreThan", desc := "(III)J" } : Jvm.MethodName) prog_4_method_2_code (8 : Nat) (Option.some Jvm.ClassFile.FieldType.long)) ∈ gT := gT_mem 612 rfl rfl
set_option maxRecDepth 100000 in
theorem q613 : (Jvm.Cond.methodLink "CoatsOnChairs$Odds" (7 : Nat) ({ cls := "CoatsOnChairs$Odds", name := "power", desc := "(II)J" } : Jvm.MethodName)) ∈ gT := gT_mem 613 rfl rfl
set_option maxRecDepth 100000 in
theorem q614 : (Jvm.Cond.static ({ cls := "CoatsOnChairs$Odds", name := "power", desc := "(II)J" } : Jvm.MethodName)) ∈ gT := gT_mem 614 rfl rfl
set_option maxRecDepth 100000 in
theorem q615 : (Jvm.Cond.code ({ cls := "CoatsOnChairs$Odds", name := "power", desc := "(II)J" } : Jvm.MethodName) prog_4_method_3_code (5 : Nat) (Option.some Jvm.ClassFile.FieldType.long)) ∈ gT := gT_mem 615 rfl rfl
set_option maxRecDepth 100000 in
theorem q616 : (Jvm.Cond.methodLink "CoatsOnChairs" (207 : Nat) ({ cls := "CoatsOnChairs$Odds", name := "power", desc := "(II)J" } : Jvm.MethodName)) ∈ gT := gT_mem 616 rfl rfl
set_option maxRecDepth 100000 in
theorem q617 : (Jvm.Cond.methodLink "CoatsOnChairs" (211 : Nat) ({ cls := "CoatsOnChairs$Odds", name := "commonDivisor", desc := "(JJ)J" } : Jvm.MethodName)) ∈ gT := gT_mem 617 rfl rfl
set_option maxRecDepth 100000 in
theorem q618 : (Jvm.Cond.static ({ cls := "CoatsOnChairs$Odds", name := "commonDivisor", desc := "(JJ)J" } : Jvm.MethodName)) ∈ gT := gT_mem 618 rfl rfl
set_option maxRecDepth 100000 in
theorem q619 : (Jvm.Cond.code ({ cls := "CoatsOnChairs$Odds", name := "commonDivisor", desc := "(JJ)J" } : Jvm.MethodName) prog_4_method_4_code (11 : Nat) (Option.some Jvm.ClassFile.FieldType.long)) ∈ gT := gT_mem 619 rfl rfl
set_option maxRecDepth 100000 in
theorem q620 : (Jvm.Cond.methodLink "CoatsOnChairsLaw" (99 : Nat) ({ cls := "CoatsOnChairs", name := "over", desc := "(III)I" } : Jvm.MethodName)) ∈ gT := gT_mem 620 rfl rfl
set_option maxRecDepth 100000 in
theorem q621 : (Jvm.Cond.instanceMethod ({ cls := "CoatsOnChairs", name := "over", desc := "(III)I" } : Jvm.MethodName)) ∈ gT := gT_mem 621 rfl rfl
set_option maxRecDepth 100000 in
theorem q622 : (Jvm.Cond.selects "CoatsOnChairs" ({ cls := "CoatsOnChairs", name := "over", desc := "(III)I" } : Jvm.MethodName) ({ cls := "CoatsOnChairs", name := "over", desc := "(III)I" } : Jvm.MethodName)) ∈ gT := gT_mem 622 rfl rfl
set_option maxRecDepth 100000 in
theorem q623 : (Jvm.Cond.code ({ cls := "CoatsOnChairs", name := "over", desc := "(III)I" } : Jvm.MethodName) prog_1_method_21_code (5 : Nat) (Option.some Jvm.ClassFile.FieldType.int)) ∈ gT := gT_mem 623 rfl rfl
set_option maxRecDepth 100000 in
theorem q624 : (Jvm.Cond.constantLong "CoatsOnChairs" (215 : Nat) (100 : Int64)) ∈ gT := gT_mem 624 rfl rfl
set_option maxRecDepth 100000 in
theorem q625 : (Jvm.Cond.methodLink "CoatsOnChairsLaw" (103 : Nat) ({ cls := "CoatsOnChairs", name := "dare", desc := "(III)I" } : Jvm.MethodName)) ∈ gT := gT_mem 625 rfl rfl
set_option maxRecDepth 100000 in
theorem q626 : (Jvm.Cond.instanceMethod ({ cls := "CoatsOnChairs", name := "dare", desc := "(III)I" } : Jvm.MethodName)) ∈ gT := gT_mem 626 rfl rfl
set_option maxRecDepth 100000 in
theorem q627 : (Jvm.Cond.selects "CoatsOnChairs" ({ cls := "CoatsOnChairs", name := "dare", desc := "(III)I" } : Jvm.MethodName) ({ cls := "CoatsOnChairs", name := "dare", desc := "(III)I" } : Jvm.MethodName)) ∈ gT := gT_mem 627 rfl rfl
set_option maxRecDepth 100000 in
theorem q628 : (Jvm.Cond.code ({ cls := "CoatsOnChairs", name := "dare", desc := "(III)I" } : Jvm.MethodName) prog_1_method_22_code (8 : Nat) (Option.some Jvm.ClassFile.FieldType.int)) ∈ gT := gT_mem 628 rfl rfl
set_option maxRecDepth 100000 in
theorem q629 : (Jvm.Cond.methodLink "CoatsOnChairs" (217 : Nat) ({ cls := "CoatsOnChairs$Room", name := "goesOff", desc := "(I)Z" } : Jvm.MethodName)) ∈ gT := gT_mem 629 rfl rfl
set_option maxRecDepth 100000 in
theorem q630 : (Jvm.Cond.methodLink "CoatsOnChairsLaw" (107 : Nat) ({ cls := "CoatsOnChairs", name := "drawn", desc := "(II)I" } : Jvm.MethodName)) ∈ gT := gT_mem 630 rfl rfl
set_option maxRecDepth 100000 in
theorem q631 : (Jvm.Cond.instanceMethod ({ cls := "CoatsOnChairs", name := "drawn", desc := "(II)I" } : Jvm.MethodName)) ∈ gT := gT_mem 631 rfl rfl
set_option maxRecDepth 100000 in
theorem q632 : (Jvm.Cond.selects "CoatsOnChairs" ({ cls := "CoatsOnChairs", name := "drawn", desc := "(II)I" } : Jvm.MethodName) ({ cls := "CoatsOnChairs", name := "drawn", desc := "(II)I" } : Jvm.MethodName)) ∈ gT := gT_mem 632 rfl rfl
set_option maxRecDepth 100000 in
theorem q633 : (Jvm.Cond.code ({ cls := "CoatsOnChairs", name := "drawn", desc := "(II)I" } : Jvm.MethodName) prog_1_method_23_code (3 : Nat) (Option.some Jvm.ClassFile.FieldType.int)) ∈ gT := gT_mem 633 rfl rfl
set_option maxRecDepth 100000 in
theorem q634 : (Jvm.Cond.methodLink "CoatsOnChairs" (220 : Nat) ({ cls := "CoatsOnChairs", name := "shutOutByDraw", desc := "(II)I" } : Jvm.MethodName)) ∈ gT := gT_mem 634 rfl rfl
set_option maxRecDepth 100000 in
theorem q636 : (Jvm.Cond.instanceMethod ({ cls := "CoatsOnChairs", name := "shutOutByDraw", desc := "(II)I" } : Jvm.MethodName)) ∈ gT := gT_mem 636 rfl rfl
set_option maxRecDepth 100000 in
theorem q637 : (Jvm.Cond.code ({ cls := "CoatsOnChairs", name := "shutOutByDraw", desc := "(II)I" } : Jvm.MethodName) prog_1_method_31_code (3 : Nat) (Option.some Jvm.ClassFile.FieldType.int)) ∈ gT := gT_mem 637 rfl rfl
set_option maxRecDepth 100000 in
theorem q638 : (Jvm.Cond.methodLink "CoatsOnChairs" (227 : Nat) ({ cls := "CoatsOnChairs$Day", name := "comeLater", desc := "(I)V" } : Jvm.MethodName)) ∈ gT := gT_mem 638 rfl rfl
set_option maxRecDepth 100000 in
theorem q639 : (Jvm.Cond.instanceMethod ({ cls := "CoatsOnChairs$Day", name := "comeLater", desc := "(I)V" } : Jvm.MethodName)) ∈ gT := gT_mem 639 rfl rfl
set_option maxRecDepth 100000 in
theorem q640 : (Jvm.Cond.selects "CoatsOnChairs$Day" ({ cls := "CoatsOnChairs$Day", name := "comeLater", desc := "(I)V" } : Jvm.MethodName) ({ cls := "CoatsOnChairs$Day", name := "comeLater", desc := "(I)V" } : Jvm.MethodName)) ∈ gT := gT_mem 640 rfl rfl
set_option maxRecDepth 100000 in
theorem q641 : (Jvm.Cond.code ({ cls := "CoatsOnChairs$Day", name := "comeLater", desc := "(I)V" } : Jvm.MethodName) prog_2_method_4_code (6 : Nat) (Option.none : Option Jvm.ClassFile.FieldType)) ∈ gT := gT_mem 641 rfl rfl
set_option maxRecDepth 100000 in
theorem q642 : (Jvm.Cond.methodLink "CoatsOnChairs$Day" (106 : Nat) ({ cls := "CoatsOnChairs$Room", name := "laterMinutes", desc := "()I" } : Jvm.MethodName)) ∈ gT := gT_mem 642 rfl rfl
set_option maxRecDepth 100000 in
theorem q643 : (Jvm.Cond.instanceMethod ({ cls := "CoatsOnChairs$Room", name := "laterMinutes", desc := "()I" } : Jvm.MethodName)) ∈ gT := gT_mem 643 rfl rfl
set_option maxRecDepth 100000 in
theorem q644 : (Jvm.Cond.selects "CoatsOnChairs$Room" ({ cls := "CoatsOnChairs$Room", name := "laterMinutes", desc := "()I" } : Jvm.MethodName) ({ cls := "CoatsOnChairs$Room", name := "laterMinutes", desc := "()I" } : Jvm.MethodName)) ∈ gT := gT_mem 644 rfl rfl
set_option maxRecDepth 100000 in
theorem q645 : (Jvm.Cond.code ({ cls := "CoatsOnChairs$Room", name := "laterMinutes", desc := "()I" } : Jvm.MethodName) prog_5_method_15_code (1 : Nat) (Option.some Jvm.ClassFile.FieldType.int)) ∈ gT := gT_mem 645 rfl rfl
set_option maxRecDepth 100000 in
theorem q646 : (Jvm.Cond.constantLong "CoatsOnChairs$Day" (109 : Nat) (7919 : Int64)) ∈ gT := gT_mem 646 rfl rfl
set_option maxRecDepth 100000 in
theorem q647 : (Jvm.Cond.constantLong "CoatsOnChairs$Day" (111 : Nat) (6151 : Int64)) ∈ gT := gT_mem 647 rfl rfl
set_option maxRecDepth 100000 in
theorem q648 : (Jvm.Cond.constantLong "CoatsOnChairs$Day" (113 : Nat) (65521 : Int64)) ∈ gT := gT_mem 648 rfl rfl
set_option maxRecDepth 100000 in
theorem q649 : (Jvm.Cond.methodLink "CoatsOnChairsLaw" (111 : Nat) ({ cls := "CoatsOnChairs", name := "ten", desc := "(II)I" } : Jvm.MethodName)) ∈ gT := gT_mem 649 rfl rfl
set_option maxRecDepth 100000 in
theorem q650 : (Jvm.Cond.instanceMethod ({ cls := "CoatsOnChairs", name := "ten", desc := "(II)I" } : Jvm.MethodName)) ∈ gT := gT_mem 650 rfl rfl
set_option maxRecDepth 100000 in
theorem q651 : (Jvm.Cond.selects "CoatsOnChairs" ({ cls := "CoatsOnChairs", name := "ten", desc := "(II)I" } : Jvm.MethodName) ({ cls := "CoatsOnChairs", name := "ten", desc := "(II)I" } : Jvm.MethodName)) ∈ gT := gT_mem 651 rfl rfl
set_option maxRecDepth 100000 in
theorem q652 : (Jvm.Cond.code ({ cls := "CoatsOnChairs", name := "ten", desc := "(II)I" } : Jvm.MethodName) prog_1_method_24_code (5 : Nat) (Option.some Jvm.ClassFile.FieldType.int)) ∈ gT := gT_mem 652 rfl rfl
set_option maxRecDepth 100000 in
theorem q653 : (Jvm.Cond.methodLink "CoatsOnChairsLaw" (115 : Nat) ({ cls := "CoatsOnChairs", name := "keep", desc := "()I" } : Jvm.MethodName)) ∈ gT := gT_mem 653 rfl rfl
set_option maxRecDepth 100000 in
theorem q654 : (Jvm.Cond.instanceMethod ({ cls := "CoatsOnChairs", name := "keep", desc := "()I" } : Jvm.MethodName)) ∈ gT := gT_mem 654 rfl rfl
set_option maxRecDepth 100000 in
theorem q655 : (Jvm.Cond.selects "CoatsOnChairs" ({ cls := "CoatsOnChairs", name := "keep", desc := "()I" } : Jvm.MethodName) ({ cls := "CoatsOnChairs", name := "keep", desc := "()I" } : Jvm.MethodName)) ∈ gT := gT_mem 655 rfl rfl
set_option maxRecDepth 100000 in
theorem q656 : (Jvm.Cond.code ({ cls := "CoatsOnChairs", name := "keep", desc := "()I" } : Jvm.MethodName) prog_1_method_25_code (1 : Nat) (Option.some Jvm.ClassFile.FieldType.int)) ∈ gT := gT_mem 656 rfl rfl
set_option maxRecDepth 100000 in
theorem q657 : (Jvm.Cond.methodLink "CoatsOnChairsLaw" (119 : Nat) ({ cls := "CoatsOnChairs", name := "back", desc := "()I" } : Jvm.MethodName)) ∈ gT := gT_mem 657 rfl rfl
set_option maxRecDepth 100000 in
theorem q658 : (Jvm.Cond.instanceMethod ({ cls := "CoatsOnChairs", name := "back", desc := "()I" } : Jvm.MethodName)) ∈ gT := gT_mem 658 rfl rfl
set_option maxRecDepth 100000 in
theorem q659 : (Jvm.Cond.selects "CoatsOnChairs" ({ cls := "CoatsOnChairs", name := "back", desc := "()I" } : Jvm.MethodName) ({ cls := "CoatsOnChairs", name := "back", desc := "()I" } : Jvm.MethodName)) ∈ gT := gT_mem 659 rfl rfl
set_option maxRecDepth 100000 in
theorem q660 : (Jvm.Cond.code ({ cls := "CoatsOnChairs", name := "back", desc := "()I" } : Jvm.MethodName) prog_1_method_26_code (1 : Nat) (Option.some Jvm.ClassFile.FieldType.int)) ∈ gT := gT_mem 660 rfl rfl
set_option maxRecDepth 100000 in
theorem q661 : (Jvm.Cond.methodLink "CoatsOnChairsLaw" (123 : Nat) ({ cls := "CoatsOnChairs", name := "count", desc := "(I)I" } : Jvm.MethodName)) ∈ gT := gT_mem 661 rfl rfl
set_option maxRecDepth 100000 in
theorem q662 : (Jvm.Cond.instanceMethod ({ cls := "CoatsOnChairs", name := "count", desc := "(I)I" } : Jvm.MethodName)) ∈ gT := gT_mem 662 rfl rfl
set_option maxRecDepth 100000 in
theorem q663 : (Jvm.Cond.selects "CoatsOnChairs" ({ cls := "CoatsOnChairs", name := "count", desc := "(I)I" } : Jvm.MethodName) ({ cls := "CoatsOnChairs", name := "count", desc := "(I)I" } : Jvm.MethodName)) ∈ gT := gT_mem 663 rfl rfl
set_option maxRecDepth 100000 in
theorem q664 : (Jvm.Cond.code ({ cls := "CoatsOnChairs", name := "count", desc := "(I)I" } : Jvm.MethodName) prog_1_method_27_code (2 : Nat) (Option.some Jvm.ClassFile.FieldType.int)) ∈ gT := gT_mem 664 rfl rfl
set_option maxRecDepth 100000 in
theorem q665 : (Jvm.Cond.classLink "CoatsOnChairsLaw" (10 : Nat) "CoatsOnChairsModel") ∈ gT := gT_mem 665 rfl rfl
set_option maxRecDepth 100000 in
theorem q666 : (Jvm.Cond.instantiable "CoatsOnChairsModel" (30 : Nat)) ∈ gT := gT_mem 666 rfl rfl
set_option maxRecDepth 100000 in
theorem q667 : (Jvm.Cond.methodLink "CoatsOnChairsLaw" (12 : Nat) ({ cls := "CoatsOnChairsModel", name := "<init>", desc := "()V" } : Jvm.MethodName)) ∈ gT := gT_mem 667 rfl rfl
set_option maxRecDepth 100000 in
theorem q668 : (Jvm.Cond.instanceMethod ({ cls := "CoatsOnChairsModel", name := "<init>", desc := "()V" } : Jvm.MethodName)) ∈ gT := gT_mem 668 rfl rfl
set_option maxRecDepth 100000 in
theorem q669 : (Jvm.Cond.code ({ cls := "CoatsOnChairsModel", name := "<init>", desc := "()V" } : Jvm.MethodName) prog_9_method_1_code (1 : Nat) (Option.none : Option Jvm.ClassFile.FieldType)) ∈ gT := gT_mem 669 rfl rfl
set_option maxRecDepth 100000 in
theorem q670 : (Jvm.Cond.methodLink "CoatsOnChairsModel" (1 : Nat) ({ cls := "java/lang/Object", name := "<init>", desc := "()V" } : Jvm.MethodName)) ∈ gT := gT_mem 670 rfl rfl
set_option maxRecDepth 100000 in
theorem q671 : (Jvm.Cond.methodLink "CoatsOnChairsModel" (72 : Nat) ({ cls := "CoatsOnChairsModel", name := "begins", desc := "()V" } : Jvm.MethodName)) ∈ gT := gT_mem 671 rfl rfl
set_option maxRecDepth 100000 in
theorem q673 : (Jvm.Cond.instanceMethod ({ cls := "CoatsOnChairsModel", name := "begins", desc := "()V" } : Jvm.MethodName)) ∈ gT := gT_mem 673 rfl rfl
set_option maxRecDepth 100000 in
theorem q674 : (Jvm.Cond.code ({ cls := "CoatsOnChairsModel", name := "begins", desc := "()V" } : Jvm.MethodName) prog_9_method_10_code (1 : Nat) (Option.none : Option Jvm.ClassFile.FieldType)) ∈ gT := gT_mem 674 rfl rfl
set_option maxRecDepth 100000 in
theorem q675 : (Jvm.Cond.methodLink "CoatsOnChairsModel" (75 : Nat) ({ cls := "CoatsOnChairsModel", name := "takes", desc := "()V" } : Jvm.MethodName)) ∈ gT := gT_mem 675 rfl rfl
set_option maxRecDepth 100000 in
theorem q677 : (Jvm.Cond.instanceMethod ({ cls := "CoatsOnChairsModel", name := "takes", desc := "()V" } : Jvm.MethodName)) ∈ gT := gT_mem 677 rfl rfl
set_option maxRecDepth 100000 in
theorem q678 : (Jvm.Cond.code ({ cls := "CoatsOnChairsModel", name := "takes", desc := "()V" } : Jvm.MethodName) prog_9_method_11_code (2 : Nat) (Option.none : Option Jvm.ClassFile.FieldType)) ∈ gT := gT_mem 678 rfl rfl
set_option maxRecDepth 100000 in
theorem q679 : (Jvm.Cond.fieldLink "CoatsOnChairsModel" (84 : Nat) "CoatsOnChairsModel" "length" "I") ∈ gT := gT_mem 679 rfl rfl
set_option maxRecDepth 100000 in
theorem q680 : (Jvm.Cond.fieldLink "CoatsOnChairsModel" (7 : Nat) "CoatsOnChairsModel" "text" "[B") ∈ gT := gT_mem 680 rfl rfl
set_option maxRecDepth 100000 in
theorem q681 : (Jvm.Cond.fieldLink "CoatsOnChairsModel" (88 : Nat) "CoatsOnChairsModel" "at" "I") ∈ gT := gT_mem 681 rfl rfl
set_option maxRecDepth 100000 in
theorem q682 : (Jvm.Cond.fieldLink "CoatsOnChairsModel" (13 : Nat) "CoatsOnChairsModel" "seats" "[I") ∈ gT := gT_mem 682 rfl rfl
set_option maxRecDepth 100000 in
theorem q683 : (Jvm.Cond.fieldLink "CoatsOnChairsModel" (17 : Nat) "CoatsOnChairsModel" "readers" "[I") ∈ gT := gT_mem 683 rfl rfl
set_option maxRecDepth 100000 in
theorem q684 : (Jvm.Cond.fieldLink "CoatsOnChairsModel" (20 : Nat) "CoatsOnChairsModel" "kind" "[I") ∈ gT := gT_mem 684 rfl rfl
set_option maxRecDepth 100000 in
theorem q685 : (Jvm.Cond.fieldLink "CoatsOnChairsModel" (23 : Nat) "CoatsOnChairsModel" "reader" "[I") ∈ gT := gT_mem 685 rfl rfl
set_option maxRecDepth 100000 in
theorem q686 : (Jvm.Cond.fieldLink "CoatsOnChairsModel" (26 : Nat) "CoatsOnChairsModel" "told" "[I") ∈ gT := gT_mem 686 rfl rfl
set_option maxRecDepth 100000 in
theorem q687 : (Jvm.Cond.fieldLink "CoatsOnChairsModel" (113 : Nat) "CoatsOnChairsModel" "holders" "I") ∈ gT := gT_mem 687 rfl rfl
set_option maxRecDepth 100000 in
theorem q688 : (Jvm.Cond.fieldLink "CoatsOnChairsModel" (116 : Nat) "CoatsOnChairsModel" "kept" "I") ∈ gT := gT_mem 688 rfl rfl
set_option maxRecDepth 100000 in
theorem q689 : (Jvm.Cond.fieldLink "CoatsOnChairsModel" (29 : Nat) "CoatsOnChairsModel" "keptHolders" "[I") ∈ gT := gT_mem 689 rfl rfl
set_option maxRecDepth 100000 in
theorem q690 : (Jvm.Cond.fieldLink "CoatsOnChairsModel" (32 : Nat) "CoatsOnChairsModel" "does" "[I") ∈ gT := gT_mem 690 rfl rfl
set_option maxRecDepth 100000 in
theorem q691 : (Jvm.Cond.fieldLink "CoatsOnChairsModel" (35 : Nat) "CoatsOnChairsModel" "place" "[I") ∈ gT := gT_mem 691 rfl rfl
set_option maxRecDepth 100000 in
theorem q692 : (Jvm.Cond.fieldLink "CoatsOnChairsModel" (38 : Nat) "CoatsOnChairsModel" "sat" "[I") ∈ gT := gT_mem 692 rfl rfl
set_option maxRecDepth 100000 in
theorem q693 : (Jvm.Cond.fieldLink "CoatsOnChairsModel" (41 : Nat) "CoatsOnChairsModel" "since" "[I") ∈ gT := gT_mem 693 rfl rfl
set_option maxRecDepth 100000 in
theorem q694 : (Jvm.Cond.fieldLink "CoatsOnChairsModel" (44 : Nat) "CoatsOnChairsModel" "went" "[I") ∈ gT := gT_mem 694 rfl rfl
set_option maxRecDepth 100000 in
theorem q695 : (Jvm.Cond.fieldLink "CoatsOnChairsModel" (47 : Nat) "CoatsOnChairsModel" "held" "[Z") ∈ gT := gT_mem 695 rfl rfl
set_option maxRecDepth 100000 in
theorem q696 : (Jvm.Cond.fieldLink "CoatsOnChairsModel" (51 : Nat) "CoatsOnChairsModel" "late" "[I") ∈ gT := gT_mem 696 rfl rfl
set_option maxRecDepth 100000 in
theorem q697 : (Jvm.Cond.fieldLink "CoatsOnChairsModel" (54 : Nat) "CoatsOnChairsModel" "sits" "[I") ∈ gT := gT_mem 697 rfl rfl
set_option maxRecDepth 100000 in
theorem q698 : (Jvm.Cond.fieldLink "CoatsOnChairsModel" (57 : Nat) "CoatsOnChairsModel" "holds" "[I") ∈ gT := gT_mem 698 rfl rfl
set_option maxRecDepth 100000 in
theorem q699 : (Jvm.Cond.fieldLink "CoatsOnChairsModel" (170 : Nat) "CoatsOnChairsModel" "used" "I") ∈ gT := gT_mem 699 rfl rfl
set_option maxRecDepth 100000 in
theorem q700 : (Jvm.Cond.fieldLink "CoatsOnChairsModel" (167 : Nat) "CoatsOnChairsModel" "empty" "I") ∈ gT := gT_mem 700 rfl rfl
set_option maxRecDepth 100000 in
theorem q701 : (Jvm.Cond.fieldLink "CoatsOnChairsModel" (149 : Nat) "CoatsOnChairsModel" "shut" "I") ∈ gT := gT_mem 701 rfl rfl
set_option maxRecDepth 100000 in
theorem q702 : (Jvm.Cond.fieldLink "CoatsOnChairsModel" (139 : Nat) "CoatsOnChairsModel" "thrown" "I") ∈ gT := gT_mem 702 rfl rfl
set_option maxRecDepth 100000 in
theorem q703 : (Jvm.Cond.fieldLink "CoatsOnChairsModel" (60 : Nat) "CoatsOnChairsModel" "seen" "[I") ∈ gT := gT_mem 703 rfl rfl
set_option maxRecDepth 100000 in
theorem q704 : (Jvm.Cond.fieldLink "CoatsOnChairsModel" (63 : Nat) "CoatsOnChairsModel" "sets" "[I") ∈ gT := gT_mem 704 rfl rfl
set_option maxRecDepth 100000 in
theorem q705 : (Jvm.Cond.fieldLink "CoatsOnChairsModel" (66 : Nat) "CoatsOnChairsModel" "ruled" "[I") ∈ gT := gT_mem 705 rfl rfl
set_option maxRecDepth 100000 in
theorem q706 : (Jvm.Cond.fieldLink "CoatsOnChairsModel" (211 : Nat) "CoatsOnChairsModel" "above" "J") ∈ gT := gT_mem 706 rfl rfl
set_option maxRecDepth 100000 in
theorem q707 : (Jvm.Cond.fieldLink "CoatsOnChairsModel" (215 : Nat) "CoatsOnChairsModel" "below" "J") ∈ gT := gT_mem 707 rfl rfl
set_option maxRecDepth 100000 in
theorem q708 : (Jvm.Cond.fieldLink "CoatsOnChairsModel" (69 : Nat) "CoatsOnChairsModel" "got" "[I") ∈ gT := gT_mem 708 rfl rfl
set_option maxRecDepth 100000 in
theorem q709 : (Jvm.Cond.lays "CoatsOnChairsModel" "CoatsOnChairsModel" "length" "I") ∈ gT := gT_mem 709 rfl rfl
set_option maxRecDepth 100000 in
theorem q710 : (Jvm.Cond.soleField "CoatsOnChairsModel" "length") ∈ gT := gT_mem 710 rfl rfl
set_option maxRecDepth 100000 in
theorem q711 : (Jvm.Cond.laysFinal "CoatsOnChairsModel" "CoatsOnChairsModel" "text" "[B") ∈ gT := gT_mem 711 rfl rfl
set_option maxRecDepth 100000 in
theorem q712 : (Jvm.Cond.soleField "CoatsOnChairsModel" "text") ∈ gT := gT_mem 712 rfl rfl
set_option maxRecDepth 100000 in
theorem q713 : (Jvm.Cond.lays "CoatsOnChairsModel" "CoatsOnChairsModel" "at" "I") ∈ gT := gT_mem 713 rfl rfl
set_option maxRecDepth 100000 in
theorem q714 : (Jvm.Cond.soleField "CoatsOnChairsModel" "at") ∈ gT := gT_mem 714 rfl rfl
set_option maxRecDepth 100000 in
theorem q715 : (Jvm.Cond.laysFinal "CoatsOnChairsModel" "CoatsOnChairsModel" "seats" "[I") ∈ gT := gT_mem 715 rfl rfl
set_option maxRecDepth 100000 in
theorem q716 : (Jvm.Cond.soleField "CoatsOnChairsModel" "seats") ∈ gT := gT_mem 716 rfl rfl
set_option maxRecDepth 100000 in
theorem q717 : (Jvm.Cond.laysFinal "CoatsOnChairsModel" "CoatsOnChairsModel" "readers" "[I") ∈ gT := gT_mem 717 rfl rfl
set_option maxRecDepth 100000 in
theorem q718 : (Jvm.Cond.soleField "CoatsOnChairsModel" "readers") ∈ gT := gT_mem 718 rfl rfl
set_option maxRecDepth 100000 in
theorem q719 : (Jvm.Cond.laysFinal "CoatsOnChairsModel" "CoatsOnChairsModel" "kind" "[I") ∈ gT := gT_mem 719 rfl rfl
set_option maxRecDepth 100000 in
theorem q720 : (Jvm.Cond.soleField "CoatsOnChairsModel" "kind") ∈ gT := gT_mem 720 rfl rfl
set_option maxRecDepth 100000 in
theorem q721 : (Jvm.Cond.laysFinal "CoatsOnChairsModel" "CoatsOnChairsModel" "reader" "[I") ∈ gT := gT_mem 721 rfl rfl
set_option maxRecDepth 100000 in
theorem q722 : (Jvm.Cond.soleField "CoatsOnChairsModel" "reader") ∈ gT := gT_mem 722 rfl rfl
set_option maxRecDepth 100000 in
theorem q723 : (Jvm.Cond.laysFinal "CoatsOnChairsModel" "CoatsOnChairsModel" "told" "[I") ∈ gT := gT_mem 723 rfl rfl
set_option maxRecDepth 100000 in
theorem q724 : (Jvm.Cond.soleField "CoatsOnChairsModel" "told") ∈ gT := gT_mem 724 rfl rfl
set_option maxRecDepth 100000 in
theorem q725 : (Jvm.Cond.lays "CoatsOnChairsModel" "CoatsOnChairsModel" "holders" "I") ∈ gT := gT_mem 725 rfl rfl
set_option maxRecDepth 100000 in
theorem q726 : (Jvm.Cond.soleField "CoatsOnChairsModel" "holders") ∈ gT := gT_mem 726 rfl rfl
set_option maxRecDepth 100000 in
theorem q727 : (Jvm.Cond.lays "CoatsOnChairsModel" "CoatsOnChairsModel" "kept" "I") ∈ gT := gT_mem 727 rfl rfl
set_option maxRecDepth 100000 in
theorem q728 : (Jvm.Cond.soleField "CoatsOnChairsModel" "kept") ∈ gT := gT_mem 728 rfl rfl
set_option maxRecDepth 100000 in
theorem q729 : (Jvm.Cond.laysFinal "CoatsOnChairsModel" "CoatsOnChairsModel" "keptHolders" "[I") ∈ gT := gT_mem 729 rfl rfl
set_option maxRecDepth 100000 in
theorem q730 : (Jvm.Cond.soleField "CoatsOnChairsModel" "keptHolders") ∈ gT := gT_mem 730 rfl rfl
set_option maxRecDepth 100000 in
theorem q731 : (Jvm.Cond.laysFinal "CoatsOnChairsModel" "CoatsOnChairsModel" "does" "[I") ∈ gT := gT_mem 731 rfl rfl
set_option maxRecDepth 100000 in
theorem q732 : (Jvm.Cond.soleField "CoatsOnChairsModel" "does") ∈ gT := gT_mem 732 rfl rfl
set_option maxRecDepth 100000 in
theorem q733 : (Jvm.Cond.laysFinal "CoatsOnChairsModel" "CoatsOnChairsModel" "place" "[I") ∈ gT := gT_mem 733 rfl rfl
set_option maxRecDepth 100000 in
theorem q734 : (Jvm.Cond.soleField "CoatsOnChairsModel" "place") ∈ gT := gT_mem 734 rfl rfl
set_option maxRecDepth 100000 in
theorem q735 : (Jvm.Cond.laysFinal "CoatsOnChairsModel" "CoatsOnChairsModel" "sat" "[I") ∈ gT := gT_mem 735 rfl rfl
set_option maxRecDepth 100000 in
theorem q736 : (Jvm.Cond.soleField "CoatsOnChairsModel" "sat") ∈ gT := gT_mem 736 rfl rfl
set_option maxRecDepth 100000 in
theorem q737 : (Jvm.Cond.laysFinal "CoatsOnChairsModel" "CoatsOnChairsModel" "since" "[I") ∈ gT := gT_mem 737 rfl rfl
set_option maxRecDepth 100000 in
theorem q738 : (Jvm.Cond.soleField "CoatsOnChairsModel" "since") ∈ gT := gT_mem 738 rfl rfl
set_option maxRecDepth 100000 in
theorem q739 : (Jvm.Cond.laysFinal "CoatsOnChairsModel" "CoatsOnChairsModel" "went" "[I") ∈ gT := gT_mem 739 rfl rfl
set_option maxRecDepth 100000 in
theorem q740 : (Jvm.Cond.soleField "CoatsOnChairsModel" "went") ∈ gT := gT_mem 740 rfl rfl
set_option maxRecDepth 100000 in
theorem q741 : (Jvm.Cond.laysFinal "CoatsOnChairsModel" "CoatsOnChairsModel" "held" "[Z") ∈ gT := gT_mem 741 rfl rfl
set_option maxRecDepth 100000 in
theorem q742 : (Jvm.Cond.soleField "CoatsOnChairsModel" "held") ∈ gT := gT_mem 742 rfl rfl
set_option maxRecDepth 100000 in
theorem q743 : (Jvm.Cond.laysFinal "CoatsOnChairsModel" "CoatsOnChairsModel" "late" "[I") ∈ gT := gT_mem 743 rfl rfl
set_option maxRecDepth 100000 in
theorem q744 : (Jvm.Cond.soleField "CoatsOnChairsModel" "late") ∈ gT := gT_mem 744 rfl rfl
set_option maxRecDepth 100000 in
theorem q745 : (Jvm.Cond.laysFinal "CoatsOnChairsModel" "CoatsOnChairsModel" "sits" "[I") ∈ gT := gT_mem 745 rfl rfl
set_option maxRecDepth 100000 in
theorem q746 : (Jvm.Cond.soleField "CoatsOnChairsModel" "sits") ∈ gT := gT_mem 746 rfl rfl
set_option maxRecDepth 100000 in
theorem q747 : (Jvm.Cond.laysFinal "CoatsOnChairsModel" "CoatsOnChairsModel" "holds" "[I") ∈ gT := gT_mem 747 rfl rfl
set_option maxRecDepth 100000 in
theorem q748 : (Jvm.Cond.soleField "CoatsOnChairsModel" "holds") ∈ gT := gT_mem 748 rfl rfl
set_option maxRecDepth 100000 in
theorem q749 : (Jvm.Cond.lays "CoatsOnChairsModel" "CoatsOnChairsModel" "used" "I") ∈ gT := gT_mem 749 rfl rfl
set_option maxRecDepth 100000 in
theorem q750 : (Jvm.Cond.soleField "CoatsOnChairsModel" "used") ∈ gT := gT_mem 750 rfl rfl
set_option maxRecDepth 100000 in
theorem q751 : (Jvm.Cond.lays "CoatsOnChairsModel" "CoatsOnChairsModel" "empty" "I") ∈ gT := gT_mem 751 rfl rfl
set_option maxRecDepth 100000 in
theorem q752 : (Jvm.Cond.soleField "CoatsOnChairsModel" "empty") ∈ gT := gT_mem 752 rfl rfl
set_option maxRecDepth 100000 in
theorem q753 : (Jvm.Cond.lays "CoatsOnChairsModel" "CoatsOnChairsModel" "shut" "I") ∈ gT := gT_mem 753 rfl rfl
set_option maxRecDepth 100000 in
theorem q754 : (Jvm.Cond.soleField "CoatsOnChairsModel" "shut") ∈ gT := gT_mem 754 rfl rfl
set_option maxRecDepth 100000 in
theorem q755 : (Jvm.Cond.lays "CoatsOnChairsModel" "CoatsOnChairsModel" "thrown" "I") ∈ gT := gT_mem 755 rfl rfl
set_option maxRecDepth 100000 in
theorem q756 : (Jvm.Cond.soleField "CoatsOnChairsModel" "thrown") ∈ gT := gT_mem 756 rfl rfl
set_option maxRecDepth 100000 in
theorem q757 : (Jvm.Cond.laysFinal "CoatsOnChairsModel" "CoatsOnChairsModel" "seen" "[I") ∈ gT := gT_mem 757 rfl rfl
set_option maxRecDepth 100000 in
theorem q758 : (Jvm.Cond.soleField "CoatsOnChairsModel" "seen") ∈ gT := gT_mem 758 rfl rfl
set_option maxRecDepth 100000 in
theorem q759 : (Jvm.Cond.laysFinal "CoatsOnChairsModel" "CoatsOnChairsModel" "sets" "[I") ∈ gT := gT_mem 759 rfl rfl
set_option maxRecDepth 100000 in
theorem q760 : (Jvm.Cond.soleField "CoatsOnChairsModel" "sets") ∈ gT := gT_mem 760 rfl rfl
set_option maxRecDepth 100000 in
theorem q761 : (Jvm.Cond.laysFinal "CoatsOnChairsModel" "CoatsOnChairsModel" "ruled" "[I") ∈ gT := gT_mem 761 rfl rfl
set_option maxRecDepth 100000 in
theorem q762 : (Jvm.Cond.soleField "CoatsOnChairsModel" "ruled") ∈ gT := gT_mem 762 rfl rfl
set_option maxRecDepth 100000 in
theorem q763 : (Jvm.Cond.lays "CoatsOnChairsModel" "CoatsOnChairsModel" "above" "J") ∈ gT := gT_mem 763 rfl rfl
set_option maxRecDepth 100000 in
theorem q764 : (Jvm.Cond.soleField "CoatsOnChairsModel" "above") ∈ gT := gT_mem 764 rfl rfl
set_option maxRecDepth 100000 in
theorem q765 : (Jvm.Cond.lays "CoatsOnChairsModel" "CoatsOnChairsModel" "below" "J") ∈ gT := gT_mem 765 rfl rfl
set_option maxRecDepth 100000 in
theorem q766 : (Jvm.Cond.soleField "CoatsOnChairsModel" "below") ∈ gT := gT_mem 766 rfl rfl
set_option maxRecDepth 100000 in
theorem q767 : (Jvm.Cond.laysFinal "CoatsOnChairsModel" "CoatsOnChairsModel" "got" "[I") ∈ gT := gT_mem 767 rfl rfl
set_option maxRecDepth 100000 in
theorem q768 : (Jvm.Cond.soleField "CoatsOnChairsModel" "got") ∈ gT := gT_mem 768 rfl rfl
set_option maxRecDepth 100000 in
theorem q769 : (Jvm.Cond.superclass "CoatsOnChairsModel" "java/lang/Object") ∈ gT := gT_mem 769 rfl rfl
set_option maxRecDepth 100000 in
theorem q770 : (Jvm.Cond.arrayClass Jvm.ClassFile.FieldType.boolean) ∈ gT := gT_mem 770 rfl rfl
set_option maxRecDepth 100000 in
theorem q771 : (Jvm.Cond.methodLink "CoatsOnChairsLaw" (19 : Nat) ({ cls := "CoatsOnChairsModel", name := "write", desc := "(IJ)I" } : Jvm.MethodName)) ∈ gT := gT_mem 771 rfl rfl
set_option maxRecDepth 100000 in
theorem q772 : (Jvm.Cond.instanceMethod ({ cls := "CoatsOnChairsModel", name := "write", desc := "(IJ)I" } : Jvm.MethodName)) ∈ gT := gT_mem 772 rfl rfl
set_option maxRecDepth 100000 in
theorem q773 : (Jvm.Cond.selects "CoatsOnChairsModel" ({ cls := "CoatsOnChairsModel", name := "write", desc := "(IJ)I" } : Jvm.MethodName) ({ cls := "CoatsOnChairsModel", name := "write", desc := "(IJ)I" } : Jvm.MethodName)) ∈ gT := gT_mem 773 rfl rfl
set_option maxRecDepth 100000 in
theorem q774 : (Jvm.Cond.code ({ cls := "CoatsOnChairsModel", name := "write", desc := "(IJ)I" } : Jvm.MethodName) prog_9_method_3_code (5 : Nat) (Option.some Jvm.ClassFile.FieldType.int)) ∈ gT := gT_mem 774 rfl rfl
set_option maxRecDepth 100000 in
theorem q775 : (Jvm.Cond.constantLong "CoatsOnChairsModel" (78 : Nat) (8 : Int64)) ∈ gT := gT_mem 775 rfl rfl
set_option maxRecDepth 100000 in
theorem q776 : (Jvm.Cond.methodLink "CoatsOnChairsModel" (80 : Nat) ({ cls := "CoatsOnChairsModel", name := "in", desc := "(JJJ)Z" } : Jvm.MethodName)) ∈ gT := gT_mem 776 rfl rfl
set_option maxRecDepth 100000 in
theorem q777 : (Jvm.Cond.static ({ cls := "CoatsOnChairsModel", name := "in", desc := "(JJJ)Z" } : Jvm.MethodName)) ∈ gT := gT_mem 777 rfl rfl
set_option maxRecDepth 100000 in
theorem q778 : (Jvm.Cond.code ({ cls := "CoatsOnChairsModel", name := "in", desc := "(JJJ)Z" } : Jvm.MethodName) prog_9_method_2_code (6 : Nat) (Option.some Jvm.ClassFile.FieldType.boolean)) ∈ gT := gT_mem 778 rfl rfl
set_option maxRecDepth 100000 in
theorem q779 : (Jvm.Cond.methodLink "CoatsOnChairsLaw" (24 : Nat) ({ cls := "CoatsOnChairsModel", name := "wipe", desc := "()I" } : Jvm.MethodName)) ∈ gT := gT_mem 779 rfl rfl
set_option maxRecDepth 100000 in
theorem q780 : (Jvm.Cond.instanceMethod ({ cls := "CoatsOnChairsModel", name := "wipe", desc := "()I" } : Jvm.MethodName)) ∈ gT := gT_mem 780 rfl rfl
set_option maxRecDepth 100000 in
theorem q781 : (Jvm.Cond.selects "CoatsOnChairsModel" ({ cls := "CoatsOnChairsModel", name := "wipe", desc := "()I" } : Jvm.MethodName) ({ cls := "CoatsOnChairsModel", name := "wipe", desc := "()I" } : Jvm.MethodName)) ∈ gT := gT_mem 781 rfl rfl
set_option maxRecDepth 100000 in
theorem q782 : (Jvm.Cond.code ({ cls := "CoatsOnChairsModel", name := "wipe", desc := "()I" } : Jvm.MethodName) prog_9_method_4_code (2 : Nat) (Option.some Jvm.ClassFile.FieldType.int)) ∈ gT := gT_mem 782 rfl rfl
set_option maxRecDepth 100000 in
theorem q783 : (Jvm.Cond.methodLink "CoatsOnChairsLaw" (28 : Nat) ({ cls := "CoatsOnChairsModel", name := "fault", desc := "()I" } : Jvm.MethodName)) ∈ gT := gT_mem 783 rfl rfl
set_option maxRecDepth 100000 in
theorem q784 : (Jvm.Cond.instanceMethod ({ cls := "CoatsOnChairsModel", name := "fault", desc := "()I" } : Jvm.MethodName)) ∈ gT := gT_mem 784 rfl rfl
set_option maxRecDepth 100000 in
theorem q785 : (Jvm.Cond.selects "CoatsOnChairsModel" ({ cls := "CoatsOnChairsModel", name := "fault", desc := "()I" } : Jvm.MethodName) ({ cls := "CoatsOnChairsModel", name := "fault", desc := "()I" } : Jvm.MethodName)) ∈ gT := gT_mem 785 rfl rfl
set_option maxRecDepth 100000 in
theorem q786 : (Jvm.Cond.code ({ cls := "CoatsOnChairsModel", name := "fault", desc := "()I" } : Jvm.MethodName) prog_9_method_12_code (2 : Nat) (Option.some Jvm.ClassFile.FieldType.int)) ∈ gT := gT_mem 786 rfl rfl
set_option maxRecDepth 100000 in
theorem q787 : (Jvm.Cond.methodLink "CoatsOnChairsModel" (119 : Nat) ({ cls := "CoatsOnChairsModel", name := "isItem", desc := "()Z" } : Jvm.MethodName)) ∈ gT := gT_mem 787 rfl rfl
set_option maxRecDepth 100000 in
theorem q789 : (Jvm.Cond.instanceMethod ({ cls := "CoatsOnChairsModel", name := "isItem", desc := "()Z" } : Jvm.MethodName)) ∈ gT := gT_mem 789 rfl rfl
set_option maxRecDepth 100000 in
theorem q790 : (Jvm.Cond.code ({ cls := "CoatsOnChairsModel", name := "isItem", desc := "()Z" } : Jvm.MethodName) prog_9_method_7_code (5 : Nat) (Option.some Jvm.ClassFile.FieldType.boolean)) ∈ gT := gT_mem 790 rfl rfl
set_option maxRecDepth 100000 in
theorem q791 : (Jvm.Cond.methodLink "CoatsOnChairsModel" (97 : Nat) ({ cls := "CoatsOnChairsModel", name := "parts", desc := "(I)I" } : Jvm.MethodName)) ∈ gT := gT_mem 791 rfl rfl
set_option maxRecDepth 100000 in
theorem q792 : (Jvm.Cond.static ({ cls := "CoatsOnChairsModel", name := "parts", desc := "(I)I" } : Jvm.MethodName)) ∈ gT := gT_mem 792 rfl rfl
set_option maxRecDepth 100000 in
theorem q793 : (Jvm.Cond.code ({ cls := "CoatsOnChairsModel", name := "parts", desc := "(I)I" } : Jvm.MethodName) prog_9_method_6_code (1 : Nat) (Option.some Jvm.ClassFile.FieldType.int)) ∈ gT := gT_mem 793 rfl rfl
set_option maxRecDepth 100000 in
theorem q794 : (Jvm.Cond.methodLink "CoatsOnChairsModel" (101 : Nat) ({ cls := "CoatsOnChairsModel", name := "number", desc := "()I" } : Jvm.MethodName)) ∈ gT := gT_mem 794 rfl rfl
set_option maxRecDepth 100000 in
theorem q796 : (Jvm.Cond.instanceMethod ({ cls := "CoatsOnChairsModel", name := "number", desc := "()I" } : Jvm.MethodName)) ∈ gT := gT_mem 796 rfl rfl
set_option maxRecDepth 100000 in
theorem q797 : (Jvm.Cond.code ({ cls := "CoatsOnChairsModel", name := "number", desc := "()I" } : Jvm.MethodName) prog_9_method_5_code (3 : Nat) (Option.some Jvm.ClassFile.FieldType.int)) ∈ gT := gT_mem 797 rfl rfl
set_option maxRecDepth 100000 in
theorem q798 : (Jvm.Cond.constantLong "CoatsOnChairsModel" (91 : Nat) (48 : Int64)) ∈ gT := gT_mem 798 rfl rfl
set_option maxRecDepth 100000 in
theorem q799 : (Jvm.Cond.constantLong "CoatsOnChairsModel" (93 : Nat) (57 : Int64)) ∈ gT := gT_mem 799 rfl rfl
set_option maxRecDepth 100000 in
theorem q800 : (Jvm.Cond.constantLong "CoatsOnChairsModel" (95 : Nat) (3 : Int64)) ∈ gT := gT_mem 800 rfl rfl
set_option maxRecDepth 100000 in
theorem q801 : (Jvm.Cond.methodLink "CoatsOnChairsModel" (105 : Nat) ({ cls := "CoatsOnChairsModel", name := "isGood", desc := "(I)Z" } : Jvm.MethodName)) ∈ gT := gT_mem 801 rfl rfl
set_option maxRecDepth 100000 in
theorem q803 : (Jvm.Cond.instanceMethod ({ cls := "CoatsOnChairsModel", name := "isGood", desc := "(I)Z" } : Jvm.MethodName)) ∈ gT := gT_mem 803 rfl rfl
set_option maxRecDepth 100000 in
theorem q804 : (Jvm.Cond.code ({ cls := "CoatsOnChairsModel", name := "isGood", desc := "(I)Z" } : Jvm.MethodName) prog_9_method_9_code (3 : Nat) (Option.some Jvm.ClassFile.FieldType.boolean)) ∈ gT := gT_mem 804 rfl rfl
set_option maxRecDepth 100000 in
theorem q805 : (Jvm.Cond.methodLink "CoatsOnChairsModel" (109 : Nat) ({ cls := "CoatsOnChairsModel", name := "isIn", desc := "(III)Z" } : Jvm.MethodName)) ∈ gT := gT_mem 805 rfl rfl
set_option maxRecDepth 100000 in
theorem q807 : (Jvm.Cond.instanceMethod ({ cls := "CoatsOnChairsModel", name := "isIn", desc := "(III)Z" } : Jvm.MethodName)) ∈ gT := gT_mem 807 rfl rfl
set_option maxRecDepth 100000 in
theorem q808 : (Jvm.Cond.code ({ cls := "CoatsOnChairsModel", name := "isIn", desc := "(III)Z" } : Jvm.MethodName) prog_9_method_8_code (4 : Nat) (Option.some Jvm.ClassFile.FieldType.boolean)) ∈ gT := gT_mem 808 rfl rfl
set_option maxRecDepth 100000 in
theorem q809 : (Jvm.Cond.methodLink "CoatsOnChairsLaw" (32 : Nat) ({ cls := "CoatsOnChairsModel", name := "lay", desc := "()I" } : Jvm.MethodName)) ∈ gT := gT_mem 809 rfl rfl
set_option maxRecDepth 100000 in
theorem q810 : (Jvm.Cond.instanceMethod ({ cls := "CoatsOnChairsModel", name := "lay", desc := "()I" } : Jvm.MethodName)) ∈ gT := gT_mem 810 rfl rfl
set_option maxRecDepth 100000 in
theorem q811 : (Jvm.Cond.selects "CoatsOnChairsModel" ({ cls := "CoatsOnChairsModel", name := "lay", desc := "()I" } : Jvm.MethodName) ({ cls := "CoatsOnChairsModel", name := "lay", desc := "()I" } : Jvm.MethodName)) ∈ gT := gT_mem 811 rfl rfl
set_option maxRecDepth 100000 in
theorem q812 : (Jvm.Cond.code ({ cls := "CoatsOnChairsModel", name := "lay", desc := "()I" } : Jvm.MethodName) prog_9_method_13_code (1 : Nat) (Option.some Jvm.ClassFile.FieldType.int)) ∈ gT := gT_mem 812 rfl rfl
set_option maxRecDepth 100000 in
theorem q813 : (Jvm.Cond.methodLink "CoatsOnChairsModel" (123 : Nat) ({ cls := "CoatsOnChairsModel", name := "fault", desc := "()I" } : Jvm.MethodName)) ∈ gT := gT_mem 813 rfl rfl
set_option maxRecDepth 100000 in
theorem q814 : (Jvm.Cond.methodLink "CoatsOnChairsLaw" (37 : Nat) ({ cls := "CoatsOnChairsModel", name := "reader", desc := "(II)I" } : Jvm.MethodName)) ∈ gT := gT_mem 814 rfl rfl
set_option maxRecDepth 100000 in
theorem q815 : (Jvm.Cond.instanceMethod ({ cls := "CoatsOnChairsModel", name := "reader", desc := "(II)I" } : Jvm.MethodName)) ∈ gT := gT_mem 815 rfl rfl
set_option maxRecDepth 100000 in
theorem q816 : (Jvm.Cond.selects "CoatsOnChairsModel" ({ cls := "CoatsOnChairsModel", name := "reader", desc := "(II)I" } : Jvm.MethodName) ({ cls := "CoatsOnChairsModel", name := "reader", desc := "(II)I" } : Jvm.MethodName)) ∈ gT := gT_mem 816 rfl rfl
set_option maxRecDepth 100000 in
theorem q817 : (Jvm.Cond.code ({ cls := "CoatsOnChairsModel", name := "reader", desc := "(II)I" } : Jvm.MethodName) prog_9_method_18_code (3 : Nat) (Option.some Jvm.ClassFile.FieldType.int)) ∈ gT := gT_mem 817 rfl rfl
set_option maxRecDepth 100000 in
theorem q818 : (Jvm.Cond.methodLink "CoatsOnChairsModel" (130 : Nat) ({ cls := "CoatsOnChairsModel", name := "isReader", desc := "(I)Z" } : Jvm.MethodName)) ∈ gT := gT_mem 818 rfl rfl
set_option maxRecDepth 100000 in
theorem q820 : (Jvm.Cond.instanceMethod ({ cls := "CoatsOnChairsModel", name := "isReader", desc := "(I)Z" } : Jvm.MethodName)) ∈ gT := gT_mem 820 rfl rfl
set_option maxRecDepth 100000 in
theorem q821 : (Jvm.Cond.code ({ cls := "CoatsOnChairsModel", name := "isReader", desc := "(I)Z" } : Jvm.MethodName) prog_9_method_14_code (2 : Nat) (Option.some Jvm.ClassFile.FieldType.boolean)) ∈ gT := gT_mem 821 rfl rfl
set_option maxRecDepth 100000 in
theorem q822 : (Jvm.Cond.constantLong "CoatsOnChairsModel" (133 : Nat) (7 : Int64)) ∈ gT := gT_mem 822 rfl rfl
set_option maxRecDepth 100000 in
theorem q823 : (Jvm.Cond.methodLink "CoatsOnChairsModel" (135 : Nat) ({ cls := "CoatsOnChairsModel", name := "of", desc := "(II)I" } : Jvm.MethodName)) ∈ gT := gT_mem 823 rfl rfl
set_option maxRecDepth 100000 in
theorem q825 : (Jvm.Cond.instanceMethod ({ cls := "CoatsOnChairsModel", name := "of", desc := "(II)I" } : Jvm.MethodName)) ∈ gT := gT_mem 825 rfl rfl
set_option maxRecDepth 100000 in
theorem q826 : (Jvm.Cond.code ({ cls := "CoatsOnChairsModel", name := "of", desc := "(II)I" } : Jvm.MethodName) prog_9_method_17_code (3 : Nat) (Option.some Jvm.ClassFile.FieldType.int)) ∈ gT := gT_mem 826 rfl rfl
set_option maxRecDepth 100000 in
theorem q827 : (Jvm.Cond.methodLink "CoatsOnChairsLaw" (42 : Nat) ({ cls := "CoatsOnChairsModel", name := "kind", desc := "(I)I" } : Jvm.MethodName)) ∈ gT := gT_mem 827 rfl rfl
set_option maxRecDepth 100000 in
theorem q828 : (Jvm.Cond.instanceMethod ({ cls := "CoatsOnChairsModel", name := "kind", desc := "(I)I" } : Jvm.MethodName)) ∈ gT := gT_mem 828 rfl rfl
set_option maxRecDepth 100000 in
theorem q829 : (Jvm.Cond.selects "CoatsOnChairsModel" ({ cls := "CoatsOnChairsModel", name := "kind", desc := "(I)I" } : Jvm.MethodName) ({ cls := "CoatsOnChairsModel", name := "kind", desc := "(I)I" } : Jvm.MethodName)) ∈ gT := gT_mem 829 rfl rfl
set_option maxRecDepth 100000 in
theorem q830 : (Jvm.Cond.code ({ cls := "CoatsOnChairsModel", name := "kind", desc := "(I)I" } : Jvm.MethodName) prog_9_method_19_code (2 : Nat) (Option.some Jvm.ClassFile.FieldType.int)) ∈ gT := gT_mem 830 rfl rfl
set_option maxRecDepth 100000 in
theorem q831 : (Jvm.Cond.methodLink "CoatsOnChairsLaw" (47 : Nat) ({ cls := "CoatsOnChairsModel", name := "hold", desc := "(IZ)I" } : Jvm.MethodName)) ∈ gT := gT_mem 831 rfl rfl
set_option maxRecDepth 100000 in
theorem q832 : (Jvm.Cond.instanceMethod ({ cls := "CoatsOnChairsModel", name := "hold", desc := "(IZ)I" } : Jvm.MethodName)) ∈ gT := gT_mem 832 rfl rfl
set_option maxRecDepth 100000 in
theorem q833 : (Jvm.Cond.selects "CoatsOnChairsModel" ({ cls := "CoatsOnChairsModel", name := "hold", desc := "(IZ)I" } : Jvm.MethodName) ({ cls := "CoatsOnChairsModel", name := "hold", desc := "(IZ)I" } : Jvm.MethodName)) ∈ gT := gT_mem 833 rfl rfl
set_option maxRecDepth 100000 in
theorem q834 : (Jvm.Cond.code ({ cls := "CoatsOnChairsModel", name := "hold", desc := "(IZ)I" } : Jvm.MethodName) prog_9_method_20_code (4 : Nat) (Option.some Jvm.ClassFile.FieldType.int)) ∈ gT := gT_mem 834 rfl rfl
set_option maxRecDepth 100000 in
theorem q835 : (Jvm.Cond.methodLink "CoatsOnChairsLaw" (52 : Nat) ({ cls := "CoatsOnChairsModel", name := "seat", desc := "(IIII)I" } : Jvm.MethodName)) ∈ gT := gT_mem 835 rfl rfl
set_option maxRecDepth 100000 in
theorem q836 : (Jvm.Cond.instanceMethod ({ cls := "CoatsOnChairsModel", name := "seat", desc := "(IIII)I" } : Jvm.MethodName)) ∈ gT := gT_mem 836 rfl rfl
set_option maxRecDepth 100000 in
theorem q837 : (Jvm.Cond.selects "CoatsOnChairsModel" ({ cls := "CoatsOnChairsModel", name := "seat", desc := "(IIII)I" } : Jvm.MethodName) ({ cls := "CoatsOnChairsModel", name := "seat", desc := "(IIII)I" } : Jvm.MethodName)) ∈ gT := gT_mem 837 rfl rfl
set_option maxRecDepth 100000 in
theorem q838 : (Jvm.Cond.code ({ cls := "CoatsOnChairsModel", name := "seat", desc := "(IIII)I" } : Jvm.MethodName) prog_9_method_31_code (6 : Nat) (Option.some Jvm.ClassFile.FieldType.int)) ∈ gT := gT_mem 838 rfl rfl
set_option maxRecDepth 100000 in
theorem q839 : (Jvm.Cond.methodLink "CoatsOnChairsModel" (183 : Nat) ({ cls := "CoatsOnChairsModel", name := "isRule", desc := "(I)Z" } : Jvm.MethodName)) ∈ gT := gT_mem 839 rfl rfl
set_option maxRecDepth 100000 in
theorem q840 : (Jvm.Cond.static ({ cls := "CoatsOnChairsModel", name := "isRule", desc := "(I)Z" } : Jvm.MethodName)) ∈ gT := gT_mem 840 rfl rfl
set_option maxRecDepth 100000 in
theorem q841 : (Jvm.Cond.code ({ cls := "CoatsOnChairsModel", name := "isRule", desc := "(I)Z" } : Jvm.MethodName) prog_9_method_15_code (1 : Nat) (Option.some Jvm.ClassFile.FieldType.boolean)) ∈ gT := gT_mem 841 rfl rfl
set_option maxRecDepth 100000 in
theorem q842 : (Jvm.Cond.constantLong "CoatsOnChairsModel" (126 : Nat) (4 : Int64)) ∈ gT := gT_mem 842 rfl rfl
set_option maxRecDepth 100000 in
theorem q843 : (Jvm.Cond.methodLink "CoatsOnChairsModel" (186 : Nat) ({ cls := "CoatsOnChairsModel", name := "isMinute", desc := "(I)Z" } : Jvm.MethodName)) ∈ gT := gT_mem 843 rfl rfl
set_option maxRecDepth 100000 in
theorem q844 : (Jvm.Cond.static ({ cls := "CoatsOnChairsModel", name := "isMinute", desc := "(I)Z" } : Jvm.MethodName)) ∈ gT := gT_mem 844 rfl rfl
set_option maxRecDepth 100000 in
theorem q845 : (Jvm.Cond.code ({ cls := "CoatsOnChairsModel", name := "isMinute", desc := "(I)Z" } : Jvm.MethodName) prog_9_method_16_code (1 : Nat) (Option.some Jvm.ClassFile.FieldType.boolean)) ∈ gT := gT_mem 845 rfl rfl
set_option maxRecDepth 100000 in
theorem q846 : (Jvm.Cond.constantLong "CoatsOnChairsModel" (128 : Nat) (399 : Int64)) ∈ gT := gT_mem 846 rfl rfl
set_option maxRecDepth 100000 in
theorem q847 : (Jvm.Cond.methodLink "CoatsOnChairsModel" (180 : Nat) ({ cls := "CoatsOnChairsModel", name := "goes", desc := "(IIIII)V" } : Jvm.MethodName)) ∈ gT := gT_mem 847 rfl rfl
set_option maxRecDepth 100000 in
theorem q849 : (Jvm.Cond.instanceMethod ({ cls := "CoatsOnChairsModel", name := "goes", desc := "(IIIII)V" } : Jvm.MethodName)) ∈ gT := gT_mem 849 rfl rfl
set_option maxRecDepth 100000 in
theorem q850 : (Jvm.Cond.code ({ cls := "CoatsOnChairsModel", name := "goes", desc := "(IIIII)V" } : Jvm.MethodName) prog_9_method_28_code (7 : Nat) (Option.none : Option Jvm.ClassFile.FieldType)) ∈ gT := gT_mem 850 rfl rfl
set_option maxRecDepth 100000 in
theorem q851 : (Jvm.Cond.methodLink "CoatsOnChairsModel" (173 : Nat) ({ cls := "CoatsOnChairsModel", name := "run", desc := "(IIIII)V" } : Jvm.MethodName)) ∈ gT := gT_mem 851 rfl rfl
set_option maxRecDepth 100000 in
theorem q853 : (Jvm.Cond.instanceMethod ({ cls := "CoatsOnChairsModel", name := "run", desc := "(IIIII)V" } : Jvm.MethodName)) ∈ gT := gT_mem 853 rfl rfl
set_option maxRecDepth 100000 in
theorem q854 : (Jvm.Cond.code ({ cls := "CoatsOnChairsModel", name := "run", desc := "(IIIII)V" } : Jvm.MethodName) prog_9_method_29_code (7 : Nat) (Option.none : Option Jvm.ClassFile.FieldType)) ∈ gT := gT_mem 854 rfl rfl
set_option maxRecDepth 100000 in
theorem q855 : (Jvm.Cond.methodLink "CoatsOnChairsModel" (177 : Nat) ({ cls := "CoatsOnChairsModel", name := "minute", desc := "(IIIII)V" } : Jvm.MethodName)) ∈ gT := gT_mem 855 rfl rfl
set_option maxRecDepth 100000 in
theorem q857 : (Jvm.Cond.instanceMethod ({ cls := "CoatsOnChairsModel", name := "minute", desc := "(IIIII)V" } : Jvm.MethodName)) ∈ gT := gT_mem 857 rfl rfl
set_option maxRecDepth 100000 in
theorem q858 : (Jvm.Cond.code ({ cls := "CoatsOnChairsModel", name := "minute", desc := "(IIIII)V" } : Jvm.MethodName) prog_9_method_27_code (8 : Nat) (Option.none : Option Jvm.ClassFile.FieldType)) ∈ gT := gT_mem 858 rfl rfl
set_option maxRecDepth 100000 in
theorem q859 : (Jvm.Cond.methodLink "CoatsOnChairsModel" (152 : Nat) ({ cls := "CoatsOnChairsModel", name := "comesBack", desc := "(II)V" } : Jvm.MethodName)) ∈ gT := gT_mem 859 rfl rfl
set_option maxRecDepth 100000 in
theorem q861 : (Jvm.Cond.instanceMethod ({ cls := "CoatsOnChairsModel", name := "comesBack", desc := "(II)V" } : Jvm.MethodName)) ∈ gT := gT_mem 861 rfl rfl
set_option maxRecDepth 100000 in
theorem q862 : (Jvm.Cond.code ({ cls := "CoatsOnChairsModel", name := "comesBack", desc := "(II)V" } : Jvm.MethodName) prog_9_method_21_code (4 : Nat) (Option.none : Option Jvm.ClassFile.FieldType)) ∈ gT := gT_mem 862 rfl rfl
set_option maxRecDepth 100000 in
theorem q863 : (Jvm.Cond.methodLink "CoatsOnChairsModel" (156 : Nat) ({ cls := "CoatsOnChairsModel", name := "frees", desc := "(IIII)V" } : Jvm.MethodName)) ∈ gT := gT_mem 863 rfl rfl
set_option maxRecDepth 100000 in
theorem q865 : (Jvm.Cond.instanceMethod ({ cls := "CoatsOnChairsModel", name := "frees", desc := "(IIII)V" } : Jvm.MethodName)) ∈ gT := gT_mem 865 rfl rfl
set_option maxRecDepth 100000 in
theorem q866 : (Jvm.Cond.code ({ cls := "CoatsOnChairsModel", name := "frees", desc := "(IIII)V" } : Jvm.MethodName) prog_9_method_22_code (8 : Nat) (Option.none : Option Jvm.ClassFile.FieldType)) ∈ gT := gT_mem 866 rfl rfl
set_option maxRecDepth 100000 in
theorem q867 : (Jvm.Cond.methodLink "CoatsOnChairsModel" (160 : Nat) ({ cls := "CoatsOnChairsModel", name := "seeks", desc := "(III)V" } : Jvm.MethodName)) ∈ gT := gT_mem 867 rfl rfl
set_option maxRecDepth 100000 in
theorem q869 : (Jvm.Cond.instanceMethod ({ cls := "CoatsOnChairsModel", name := "seeks", desc := "(III)V" } : Jvm.MethodName)) ∈ gT := gT_mem 869 rfl rfl
set_option maxRecDepth 100000 in
theorem q870 : (Jvm.Cond.code ({ cls := "CoatsOnChairsModel", name := "seeks", desc := "(III)V" } : Jvm.MethodName) prog_9_method_25_code (5 : Nat) (Option.none : Option Jvm.ClassFile.FieldType)) ∈ gT := gT_mem 870 rfl rfl
set_option maxRecDepth 100000 in
theorem q871 : (Jvm.Cond.methodLink "CoatsOnChairsModel" (145 : Nat) ({ cls := "CoatsOnChairsModel", name := "takesSeat", desc := "(III)I" } : Jvm.MethodName)) ∈ gT := gT_mem 871 rfl rfl
set_option maxRecDepth 100000 in
theorem q873 : (Jvm.Cond.instanceMethod ({ cls := "CoatsOnChairsModel", name := "takesSeat", desc := "(III)I" } : Jvm.MethodName)) ∈ gT := gT_mem 873 rfl rfl
set_option maxRecDepth 100000 in
theorem q874 : (Jvm.Cond.code ({ cls := "CoatsOnChairsModel", name := "takesSeat", desc := "(III)I" } : Jvm.MethodName) prog_9_method_24_code (7 : Nat) (Option.some Jvm.ClassFile.FieldType.int)) ∈ gT := gT_mem 874 rfl rfl
set_option maxRecDepth 100000 in
theorem q875 : (Jvm.Cond.methodLink "CoatsOnChairsModel" (142 : Nat) ({ cls := "CoatsOnChairsModel", name := "bits", desc := "(I)I" } : Jvm.MethodName)) ∈ gT := gT_mem 875 rfl rfl
set_option maxRecDepth 100000 in
theorem q876 : (Jvm.Cond.static ({ cls := "CoatsOnChairsModel", name := "bits", desc := "(I)I" } : Jvm.MethodName)) ∈ gT := gT_mem 876 rfl rfl
set_option maxRecDepth 100000 in
theorem q877 : (Jvm.Cond.code ({ cls := "CoatsOnChairsModel", name := "bits", desc := "(I)I" } : Jvm.MethodName) prog_9_method_23_code (1 : Nat) (Option.some Jvm.ClassFile.FieldType.int)) ∈ gT := gT_mem 877 rfl rfl
set_option maxRecDepth 100000 in
theorem q878 : (Jvm.Cond.methodLink "CoatsOnChairsModel" (164 : Nat) ({ cls := "CoatsOnChairsModel", name := "sitsOn", desc := "(IIII)V" } : Jvm.MethodName)) ∈ gT := gT_mem 878 rfl rfl
set_option maxRecDepth 100000 in
theorem q880 : (Jvm.Cond.instanceMethod ({ cls := "CoatsOnChairsModel", name := "sitsOn", desc := "(IIII)V" } : Jvm.MethodName)) ∈ gT := gT_mem 880 rfl rfl
set_option maxRecDepth 100000 in
theorem q881 : (Jvm.Cond.code ({ cls := "CoatsOnChairsModel", name := "sitsOn", desc := "(IIII)V" } : Jvm.MethodName) prog_9_method_26_code (6 : Nat) (Option.none : Option Jvm.ClassFile.FieldType)) ∈ gT := gT_mem 881 rfl rfl
set_option maxRecDepth 100000 in
theorem q882 : (Jvm.Cond.methodLink "CoatsOnChairsLaw" (57 : Nat) ({ cls := "CoatsOnChairsModel", name := "does", desc := "(III)I" } : Jvm.MethodName)) ∈ gT := gT_mem 882 rfl rfl
set_option maxRecDepth 100000 in
theorem q883 : (Jvm.Cond.instanceMethod ({ cls := "CoatsOnChairsModel", name := "does", desc := "(III)I" } : Jvm.MethodName)) ∈ gT := gT_mem 883 rfl rfl
set_option maxRecDepth 100000 in
theorem q884 : (Jvm.Cond.selects "CoatsOnChairsModel" ({ cls := "CoatsOnChairsModel", name := "does", desc := "(III)I" } : Jvm.MethodName) ({ cls := "CoatsOnChairsModel", name := "does", desc := "(III)I" } : Jvm.MethodName)) ∈ gT := gT_mem 884 rfl rfl
set_option maxRecDepth 100000 in
theorem q885 : (Jvm.Cond.code ({ cls := "CoatsOnChairsModel", name := "does", desc := "(III)I" } : Jvm.MethodName) prog_9_method_32_code (4 : Nat) (Option.some Jvm.ClassFile.FieldType.int)) ∈ gT := gT_mem 885 rfl rfl
set_option maxRecDepth 100000 in
theorem q886 : (Jvm.Cond.methodLink "CoatsOnChairsLaw" (61 : Nat) ({ cls := "CoatsOnChairsModel", name := "day", desc := "(II)I" } : Jvm.MethodName)) ∈ gT := gT_mem 886 rfl rfl
set_option maxRecDepth 100000 in
theorem q887 : (Jvm.Cond.instanceMethod ({ cls := "CoatsOnChairsModel", name := "day", desc := "(II)I" } : Jvm.MethodName)) ∈ gT := gT_mem 887 rfl rfl
set_option maxRecDepth 100000 in
theorem q888 : (Jvm.Cond.selects "CoatsOnChairsModel" ({ cls := "CoatsOnChairsModel", name := "day", desc := "(II)I" } : Jvm.MethodName) ({ cls := "CoatsOnChairsModel", name := "day", desc := "(II)I" } : Jvm.MethodName)) ∈ gT := gT_mem 888 rfl rfl
set_option maxRecDepth 100000 in
theorem q889 : (Jvm.Cond.code ({ cls := "CoatsOnChairsModel", name := "day", desc := "(II)I" } : Jvm.MethodName) prog_9_method_34_code (3 : Nat) (Option.some Jvm.ClassFile.FieldType.int)) ∈ gT := gT_mem 889 rfl rfl
set_option maxRecDepth 100000 in
theorem q890 : (Jvm.Cond.constantLong "CoatsOnChairsModel" (189 : Nat) (5 : Int64)) ∈ gT := gT_mem 890 rfl rfl
set_option maxRecDepth 100000 in
theorem q891 : (Jvm.Cond.methodLink "CoatsOnChairsModel" (191 : Nat) ({ cls := "CoatsOnChairsModel", name := "whole", desc := "(I)V" } : Jvm.MethodName)) ∈ gT := gT_mem 891 rfl rfl
set_option maxRecDepth 100000 in
theorem q893 : (Jvm.Cond.instanceMethod ({ cls := "CoatsOnChairsModel", name := "whole", desc := "(I)V" } : Jvm.MethodName)) ∈ gT := gT_mem 893 rfl rfl
set_option maxRecDepth 100000 in
theorem q894 : (Jvm.Cond.code ({ cls := "CoatsOnChairsModel", name := "whole", desc := "(I)V" } : Jvm.MethodName) prog_9_method_30_code (2 : Nat) (Option.none : Option Jvm.ClassFile.FieldType)) ∈ gT := gT_mem 894 rfl rfl
set_option maxRecDepth 100000 in
theorem q895 : (Jvm.Cond.methodLink "CoatsOnChairsModel" (195 : Nat) ({ cls := "CoatsOnChairsModel", name := "many", desc := "(I)I" } : Jvm.MethodName)) ∈ gT := gT_mem 895 rfl rfl
set_option maxRecDepth 100000 in
theorem q896 : (Jvm.Cond.static ({ cls := "CoatsOnChairsModel", name := "many", desc := "(I)I" } : Jvm.MethodName)) ∈ gT := gT_mem 896 rfl rfl
set_option maxRecDepth 100000 in
theorem q897 : (Jvm.Cond.code ({ cls := "CoatsOnChairsModel", name := "many", desc := "(I)I" } : Jvm.MethodName) prog_9_method_33_code (3 : Nat) (Option.some Jvm.ClassFile.FieldType.int)) ∈ gT := gT_mem 897 rfl rfl
set_option maxRecDepth 100000 in
theorem q898 : (Jvm.Cond.methodLink "CoatsOnChairsLaw" (65 : Nat) ({ cls := "CoatsOnChairsModel", name := "sat", desc := "(II)I" } : Jvm.MethodName)) ∈ gT := gT_mem 898 rfl rfl
set_option maxRecDepth 100000 in
theorem q899 : (Jvm.Cond.instanceMethod ({ cls := "CoatsOnChairsModel", name := "sat", desc := "(II)I" } : Jvm.MethodName)) ∈ gT := gT_mem 899 rfl rfl
set_option maxRecDepth 100000 in
theorem q900 : (Jvm.Cond.selects "CoatsOnChairsModel" ({ cls := "CoatsOnChairsModel", name := "sat", desc := "(II)I" } : Jvm.MethodName) ({ cls := "CoatsOnChairsModel", name := "sat", desc := "(II)I" } : Jvm.MethodName)) ∈ gT := gT_mem 900 rfl rfl
set_option maxRecDepth 100000 in
theorem q901 : (Jvm.Cond.code ({ cls := "CoatsOnChairsModel", name := "sat", desc := "(II)I" } : Jvm.MethodName) prog_9_method_35_code (3 : Nat) (Option.some Jvm.ClassFile.FieldType.int)) ∈ gT := gT_mem 901 rfl rfl
set_option maxRecDepth 100000 in
theorem q902 : (Jvm.Cond.methodLink "CoatsOnChairsLaw" (69 : Nat) ({ cls := "CoatsOnChairsModel", name := "bettered", desc := "()I" } : Jvm.MethodName)) ∈ gT := gT_mem 902 rfl rfl
set_option maxRecDepth 100000 in
theorem q903 : (Jvm.Cond.instanceMethod ({ cls := "CoatsOnChairsModel", name := "bettered", desc := "()I" } : Jvm.MethodName)) ∈ gT := gT_mem 903 rfl rfl
set_option maxRecDepth 100000 in
theorem q904 : (Jvm.Cond.selects "CoatsOnChairsModel" ({ cls := "CoatsOnChairsModel", name := "bettered", desc := "()I" } : Jvm.MethodName) ({ cls := "CoatsOnChairsModel", name := "bettered", desc := "()I" } : Jvm.MethodName)) ∈ gT := gT_mem 904 rfl rfl
set_option maxRecDepth 100000 in
theorem q905 : (Jvm.Cond.code ({ cls := "CoatsOnChairsModel", name := "bettered", desc := "()I" } : Jvm.MethodName) prog_9_method_36_code (7 : Nat) (Option.some Jvm.ClassFile.FieldType.int)) ∈ gT := gT_mem 905 rfl rfl
set_option maxRecDepth 100000 in
theorem q906 : (Jvm.Cond.methodLink "CoatsOnChairsLaw" (73 : Nat) ({ cls := "CoatsOnChairsModel", name := "rest", desc := "(II)I" } : Jvm.MethodName)) ∈ gT := gT_mem 906 rfl rfl
set_option maxRecDepth 100000 in
theorem q907 : (Jvm.Cond.instanceMethod ({ cls := "CoatsOnChairsModel", name := "rest", desc := "(II)I" } : Jvm.MethodName)) ∈ gT := gT_mem 907 rfl rfl
set_option maxRecDepth 100000 in
theorem q908 : (Jvm.Cond.selects "CoatsOnChairsModel" ({ cls := "CoatsOnChairsModel", name := "rest", desc := "(II)I" } : Jvm.MethodName) ({ cls := "CoatsOnChairsModel", name := "rest", desc := "(II)I" } : Jvm.MethodName)) ∈ gT := gT_mem 908 rfl rfl
set_option maxRecDepth 100000 in
theorem q909 : (Jvm.Cond.code ({ cls := "CoatsOnChairsModel", name := "rest", desc := "(II)I" } : Jvm.MethodName) prog_9_method_37_code (4 : Nat) (Option.some Jvm.ClassFile.FieldType.int)) ∈ gT := gT_mem 909 rfl rfl
set_option maxRecDepth 100000 in
theorem q910 : (Jvm.Cond.methodLink "CoatsOnChairsLaw" (77 : Nat) ({ cls := "CoatsOnChairsModel", name := "rests", desc := "(II)I" } : Jvm.MethodName)) ∈ gT := gT_mem 910 rfl rfl
set_option maxRecDepth 100000 in
theorem q911 : (Jvm.Cond.instanceMethod ({ cls := "CoatsOnChairsModel", name := "rests", desc := "(II)I" } : Jvm.MethodName)) ∈ gT := gT_mem 911 rfl rfl
set_option maxRecDepth 100000 in
theorem q912 : (Jvm.Cond.selects "CoatsOnChairsModel" ({ cls := "CoatsOnChairsModel", name := "rests", desc := "(II)I" } : Jvm.MethodName) ({ cls := "CoatsOnChairsModel", name := "rests", desc := "(II)I" } : Jvm.MethodName)) ∈ gT := gT_mem 912 rfl rfl
set_option maxRecDepth 100000 in
theorem q913 : (Jvm.Cond.code ({ cls := "CoatsOnChairsModel", name := "rests", desc := "(II)I" } : Jvm.MethodName) prog_9_method_38_code (10 : Nat) (Option.some Jvm.ClassFile.FieldType.int)) ∈ gT := gT_mem 913 rfl rfl
set_option maxRecDepth 100000 in
theorem q914 : (Jvm.Cond.constantLong "CoatsOnChairsModel" (198 : Nat) (2 : Int64)) ∈ gT := gT_mem 914 rfl rfl
set_option maxRecDepth 100000 in
theorem q915 : (Jvm.Cond.methodLink "CoatsOnChairsLaw" (81 : Nat) ({ cls := "CoatsOnChairsModel", name := "rounds", desc := "(II)I" } : Jvm.MethodName)) ∈ gT := gT_mem 915 rfl rfl
set_option maxRecDepth 100000 in
theorem q916 : (Jvm.Cond.instanceMethod ({ cls := "CoatsOnChairsModel", name := "rounds", desc := "(II)I" } : Jvm.MethodName)) ∈ gT := gT_mem 916 rfl rfl
set_option maxRecDepth 100000 in
theorem q917 : (Jvm.Cond.selects "CoatsOnChairsModel" ({ cls := "CoatsOnChairsModel", name := "rounds", desc := "(II)I" } : Jvm.MethodName) ({ cls := "CoatsOnChairsModel", name := "rounds", desc := "(II)I" } : Jvm.MethodName)) ∈ gT := gT_mem 917 rfl rfl
set_option maxRecDepth 100000 in
theorem q918 : (Jvm.Cond.code ({ cls := "CoatsOnChairsModel", name := "rounds", desc := "(II)I" } : Jvm.MethodName) prog_9_method_40_code (3 : Nat) (Option.some Jvm.ClassFile.FieldType.int)) ∈ gT := gT_mem 918 rfl rfl
set_option maxRecDepth 100000 in
theorem q919 : (Jvm.Cond.constantLong "CoatsOnChairsModel" (200 : Nat) (99 : Int64)) ∈ gT := gT_mem 919 rfl rfl
set_option maxRecDepth 100000 in
theorem q920 : (Jvm.Cond.methodLink "CoatsOnChairsModel" (202 : Nat) ({ cls := "CoatsOnChairsModel", name := "counted", desc := "(I)I" } : Jvm.MethodName)) ∈ gT := gT_mem 920 rfl rfl
set_option maxRecDepth 100000 in
theorem q922 : (Jvm.Cond.instanceMethod ({ cls := "CoatsOnChairsModel", name := "counted", desc := "(I)I" } : Jvm.MethodName)) ∈ gT := gT_mem 922 rfl rfl
set_option maxRecDepth 100000 in
theorem q923 : (Jvm.Cond.code ({ cls := "CoatsOnChairsModel", name := "counted", desc := "(I)I" } : Jvm.MethodName) prog_9_method_39_code (4 : Nat) (Option.some Jvm.ClassFile.FieldType.int)) ∈ gT := gT_mem 923 rfl rfl
set_option maxRecDepth 100000 in
theorem q924 : (Jvm.Cond.methodLink "CoatsOnChairsLaw" (85 : Nat) ({ cls := "CoatsOnChairsModel", name := "often", desc := "(II)I" } : Jvm.MethodName)) ∈ gT := gT_mem 924 rfl rfl
set_option maxRecDepth 100000 in
theorem q925 : (Jvm.Cond.instanceMethod ({ cls := "CoatsOnChairsModel", name := "often", desc := "(II)I" } : Jvm.MethodName)) ∈ gT := gT_mem 925 rfl rfl
set_option maxRecDepth 100000 in
theorem q926 : (Jvm.Cond.selects "CoatsOnChairsModel" ({ cls := "CoatsOnChairsModel", name := "often", desc := "(II)I" } : Jvm.MethodName) ({ cls := "CoatsOnChairsModel", name := "often", desc := "(II)I" } : Jvm.MethodName)) ∈ gT := gT_mem 926 rfl rfl
set_option maxRecDepth 100000 in
theorem q927 : (Jvm.Cond.code ({ cls := "CoatsOnChairsModel", name := "often", desc := "(II)I" } : Jvm.MethodName) prog_9_method_41_code (5 : Nat) (Option.some Jvm.ClassFile.FieldType.int)) ∈ gT := gT_mem 927 rfl rfl
set_option maxRecDepth 100000 in
theorem q928 : (Jvm.Cond.constantLong "CoatsOnChairsModel" (205 : Nat) (9999 : Int64)) ∈ gT := gT_mem 928 rfl rfl
set_option maxRecDepth 100000 in
theorem q929 : (Jvm.Cond.methodLink "CoatsOnChairsLaw" (89 : Nat) ({ cls := "CoatsOnChairsModel", name := "porter", desc := "(I)I" } : Jvm.MethodName)) ∈ gT := gT_mem 929 rfl rfl
set_option maxRecDepth 100000 in
theorem q930 : (Jvm.Cond.instanceMethod ({ cls := "CoatsOnChairsModel", name := "porter", desc := "(I)I" } : Jvm.MethodName)) ∈ gT := gT_mem 930 rfl rfl
set_option maxRecDepth 100000 in
theorem q931 : (Jvm.Cond.selects "CoatsOnChairsModel" ({ cls := "CoatsOnChairsModel", name := "porter", desc := "(I)I" } : Jvm.MethodName) ({ cls := "CoatsOnChairsModel", name := "porter", desc := "(I)I" } : Jvm.MethodName)) ∈ gT := gT_mem 931 rfl rfl
set_option maxRecDepth 100000 in
theorem q932 : (Jvm.Cond.code ({ cls := "CoatsOnChairsModel", name := "porter", desc := "(I)I" } : Jvm.MethodName) prog_9_method_42_code (3 : Nat) (Option.some Jvm.ClassFile.FieldType.int)) ∈ gT := gT_mem 932 rfl rfl
set_option maxRecDepth 100000 in
theorem q933 : (Jvm.Cond.methodLink "CoatsOnChairsLaw" (93 : Nat) ({ cls := "CoatsOnChairsModel", name := "card", desc := "(I)I" } : Jvm.MethodName)) ∈ gT := gT_mem 933 rfl rfl
set_option maxRecDepth 100000 in
theorem q934 : (Jvm.Cond.instanceMethod ({ cls := "CoatsOnChairsModel", name := "card", desc := "(I)I" } : Jvm.MethodName)) ∈ gT := gT_mem 934 rfl rfl
set_option maxRecDepth 100000 in
theorem q935 : (Jvm.Cond.selects "CoatsOnChairsModel" ({ cls := "CoatsOnChairsModel", name := "card", desc := "(I)I" } : Jvm.MethodName) ({ cls := "CoatsOnChairsModel", name := "card", desc := "(I)I" } : Jvm.MethodName)) ∈ gT := gT_mem 935 rfl rfl
set_option maxRecDepth 100000 in
theorem q936 : (Jvm.Cond.code ({ cls := "CoatsOnChairsModel", name := "card", desc := "(I)I" } : Jvm.MethodName) prog_9_method_43_code (3 : Nat) (Option.some Jvm.ClassFile.FieldType.int)) ∈ gT := gT_mem 936 rfl rfl
set_option maxRecDepth 100000 in
theorem q937 : (Jvm.Cond.methodLink "CoatsOnChairsLaw" (98 : Nat) ({ cls := "CoatsOnChairsModel", name := "booked", desc := "(IIII)J" } : Jvm.MethodName)) ∈ gT := gT_mem 937 rfl rfl
set_option maxRecDepth 100000 in
theorem q938 : (Jvm.Cond.instanceMethod ({ cls := "CoatsOnChairsModel", name := "booked", desc := "(IIII)J" } : Jvm.MethodName)) ∈ gT := gT_mem 938 rfl rfl
set_option maxRecDepth 100000 in
theorem q939 : (Jvm.Cond.selects "CoatsOnChairsModel" ({ cls := "CoatsOnChairsModel", name := "booked", desc := "(IIII)J" } : Jvm.MethodName) ({ cls := "CoatsOnChairsModel", name := "booked", desc := "(IIII)J" } : Jvm.MethodName)) ∈ gT := gT_mem 939 rfl rfl
set_option maxRecDepth 100000 in
theorem q940 : (Jvm.Cond.code ({ cls := "CoatsOnChairsModel", name := "booked", desc := "(IIII)J" } : Jvm.MethodName) prog_9_method_47_code (5 : Nat) (Option.some Jvm.ClassFile.FieldType.long)) ∈ gT := gT_mem 940 rfl rfl
set_option maxRecDepth 100000 in
theorem q941 : (Jvm.Cond.constantLong "CoatsOnChairsModel" (218 : Nat) (14 : Int64)) ∈ gT := gT_mem 941 rfl rfl
set_option maxRecDepth 100000 in
theorem q942 : (Jvm.Cond.constantLong "CoatsOnChairsModel" (220 : Nat) (10 : Int64)) ∈ gT := gT_mem 942 rfl rfl
set_option maxRecDepth 100000 in
theorem q943 : (Jvm.Cond.constantLong "CoatsOnChairsModel" (222 : Nat) (-1 : Int64)) ∈ gT := gT_mem 943 rfl rfl
set_option maxRecDepth 100000 in
theorem q944 : (Jvm.Cond.methodLink "CoatsOnChairsModel" (224 : Nat) ({ cls := "CoatsOnChairsModel", name := "come", desc := "(III)J" } : Jvm.MethodName)) ∈ gT := gT_mem 944 rfl rfl
set_option maxRecDepth 100000 in
theorem q945 : (Jvm.Cond.static ({ cls := "CoatsOnChairsModel", name := "come", desc := "(III)J" } : Jvm.MethodName)) ∈ gT := gT_mem 945 rfl rfl
set_option maxRecDepth 100000 in
theorem q946 : (Jvm.Cond.code ({ cls := "CoatsOnChairsModel", name := "come", desc := "(III)J" } : Jvm.MethodName) prog_9_method_45_code (8 : Nat) (Option.some Jvm.ClassFile.FieldType.long)) ∈ gT := gT_mem 946 rfl rfl
set_option maxRecDepth 100000 in
theorem q947 : (Jvm.Cond.methodLink "CoatsOnChairsModel" (207 : Nat) ({ cls := "CoatsOnChairsModel", name := "power", desc := "(II)J" } : Jvm.MethodName)) ∈ gT := gT_mem 947 rfl rfl
set_option maxRecDepth 100000 in
theorem q948 : (Jvm.Cond.static ({ cls := "CoatsOnChairsModel", name := "power", desc := "(II)J" } : Jvm.MethodName)) ∈ gT := gT_mem 948 rfl rfl
set_option maxRecDepth 100000 in
theorem q949 : (Jvm.Cond.code ({ cls := "CoatsOnChairsModel", name := "power", desc := "(II)J" } : Jvm.MethodName) prog_9_method_44_code (5 : Nat) (Option.some Jvm.ClassFile.FieldType.long)) ∈ gT := gT_mem 949 rfl rfl
set_option maxRecDepth 100000 in
theorem q950 : (Jvm.Cond.methodLink "CoatsOnChairsModel" (228 : Nat) ({ cls := "CoatsOnChairsModel", name := "lowest", desc := "(JJ)V" } : Jvm.MethodName)) ∈ gT := gT_mem 950 rfl rfl
set_option maxRecDepth 100000 in
theorem q952 : (Jvm.Cond.instanceMethod ({ cls := "CoatsOnChairsModel", name := "lowest", desc := "(JJ)V" } : Jvm.MethodName)) ∈ gT := gT_mem 952 rfl rfl
set_option maxRecDepth 100000 in
theorem q953 : (Jvm.Cond.code ({ cls := "CoatsOnChairsModel", name := "lowest", desc := "(JJ)V" } : Jvm.MethodName) prog_9_method_46_code (11 : Nat) (Option.none : Option Jvm.ClassFile.FieldType)) ∈ gT := gT_mem 953 rfl rfl
set_option maxRecDepth 100000 in
theorem q954 : (Jvm.Cond.methodLink "CoatsOnChairsLaw" (102 : Nat) ({ cls := "CoatsOnChairsModel", name := "over", desc := "(III)I" } : Jvm.MethodName)) ∈ gT := gT_mem 954 rfl rfl
set_option maxRecDepth 100000 in
theorem q955 : (Jvm.Cond.instanceMethod ({ cls := "CoatsOnChairsModel", name := "over", desc := "(III)I" } : Jvm.MethodName)) ∈ gT := gT_mem 955 rfl rfl
set_option maxRecDepth 100000 in
theorem q956 : (Jvm.Cond.selects "CoatsOnChairsModel" ({ cls := "CoatsOnChairsModel", name := "over", desc := "(III)I" } : Jvm.MethodName) ({ cls := "CoatsOnChairsModel", name := "over", desc := "(III)I" } : Jvm.MethodName)) ∈ gT := gT_mem 956 rfl rfl
set_option maxRecDepth 100000 in
theorem q957 : (Jvm.Cond.code ({ cls := "CoatsOnChairsModel", name := "over", desc := "(III)I" } : Jvm.MethodName) prog_9_method_48_code (6 : Nat) (Option.some Jvm.ClassFile.FieldType.int)) ∈ gT := gT_mem 957 rfl rfl
set_option maxRecDepth 100000 in
theorem q958 : (Jvm.Cond.constantLong "CoatsOnChairsModel" (232 : Nat) (100 : Int64)) ∈ gT := gT_mem 958 rfl rfl
set_option maxRecDepth 100000 in
theorem q959 : (Jvm.Cond.methodLink "CoatsOnChairsLaw" (106 : Nat) ({ cls := "CoatsOnChairsModel", name := "dare", desc := "(III)I" } : Jvm.MethodName)) ∈ gT := gT_mem 959 rfl rfl
set_option maxRecDepth 100000 in
theorem q960 : (Jvm.Cond.instanceMethod ({ cls := "CoatsOnChairsModel", name := "dare", desc := "(III)I" } : Jvm.MethodName)) ∈ gT := gT_mem 960 rfl rfl
set_option maxRecDepth 100000 in
theorem q961 : (Jvm.Cond.selects "CoatsOnChairsModel" ({ cls := "CoatsOnChairsModel", name := "dare", desc := "(III)I" } : Jvm.MethodName) ({ cls := "CoatsOnChairsModel", name := "dare", desc := "(III)I" } : Jvm.MethodName)) ∈ gT := gT_mem 961 rfl rfl
set_option maxRecDepth 100000 in
theorem q962 : (Jvm.Cond.code ({ cls := "CoatsOnChairsModel", name := "dare", desc := "(III)I" } : Jvm.MethodName) prog_9_method_49_code (8 : Nat) (Option.some Jvm.ClassFile.FieldType.int)) ∈ gT := gT_mem 962 rfl rfl
set_option maxRecDepth 100000 in
theorem q963 : (Jvm.Cond.constantLong "CoatsOnChairsModel" (234 : Nat) (98 : Int64)) ∈ gT := gT_mem 963 rfl rfl
set_option maxRecDepth 100000 in
theorem q964 : (Jvm.Cond.methodLink "CoatsOnChairsLaw" (110 : Nat) ({ cls := "CoatsOnChairsModel", name := "drawn", desc := "(II)I" } : Jvm.MethodName)) ∈ gT := gT_mem 964 rfl rfl
set_option maxRecDepth 100000 in
theorem q965 : (Jvm.Cond.instanceMethod ({ cls := "CoatsOnChairsModel", name := "drawn", desc := "(II)I" } : Jvm.MethodName)) ∈ gT := gT_mem 965 rfl rfl
set_option maxRecDepth 100000 in
theorem q966 : (Jvm.Cond.selects "CoatsOnChairsModel" ({ cls := "CoatsOnChairsModel", name := "drawn", desc := "(II)I" } : Jvm.MethodName) ({ cls := "CoatsOnChairsModel", name := "drawn", desc := "(II)I" } : Jvm.MethodName)) ∈ gT := gT_mem 966 rfl rfl
set_option maxRecDepth 100000 in
theorem q967 : (Jvm.Cond.code ({ cls := "CoatsOnChairsModel", name := "drawn", desc := "(II)I" } : Jvm.MethodName) prog_9_method_52_code (3 : Nat) (Option.some Jvm.ClassFile.FieldType.int)) ∈ gT := gT_mem 967 rfl rfl
set_option maxRecDepth 100000 in
theorem q968 : (Jvm.Cond.methodLink "CoatsOnChairsModel" (242 : Nat) ({ cls := "CoatsOnChairsModel", name := "isSeed", desc := "(I)Z" } : Jvm.MethodName)) ∈ gT := gT_mem 968 rfl rfl
set_option maxRecDepth 100000 in
theorem q969 : (Jvm.Cond.static ({ cls := "CoatsOnChairsModel", name := "isSeed", desc := "(I)Z" } : Jvm.MethodName)) ∈ gT := gT_mem 969 rfl rfl
set_option maxRecDepth 100000 in
theorem q970 : (Jvm.Cond.code ({ cls := "CoatsOnChairsModel", name := "isSeed", desc := "(I)Z" } : Jvm.MethodName) prog_9_method_51_code (1 : Nat) (Option.some Jvm.ClassFile.FieldType.boolean)) ∈ gT := gT_mem 970 rfl rfl
set_option maxRecDepth 100000 in
theorem q971 : (Jvm.Cond.methodLink "CoatsOnChairsModel" (245 : Nat) ({ cls := "CoatsOnChairsModel", name := "drawnDay", desc := "(II)I" } : Jvm.MethodName)) ∈ gT := gT_mem 971 rfl rfl
set_option maxRecDepth 100000 in
theorem q973 : (Jvm.Cond.instanceMethod ({ cls := "CoatsOnChairsModel", name := "drawnDay", desc := "(II)I" } : Jvm.MethodName)) ∈ gT := gT_mem 973 rfl rfl
set_option maxRecDepth 100000 in
theorem q974 : (Jvm.Cond.code ({ cls := "CoatsOnChairsModel", name := "drawnDay", desc := "(II)I" } : Jvm.MethodName) prog_9_method_50_code (6 : Nat) (Option.some Jvm.ClassFile.FieldType.int)) ∈ gT := gT_mem 974 rfl rfl
set_option maxRecDepth 100000 in
theorem q975 : (Jvm.Cond.constantLong "CoatsOnChairsModel" (236 : Nat) (7919 : Int64)) ∈ gT := gT_mem 975 rfl rfl
set_option maxRecDepth 100000 in
theorem q976 : (Jvm.Cond.constantLong "CoatsOnChairsModel" (238 : Nat) (6151 : Int64)) ∈ gT := gT_mem 976 rfl rfl
set_option maxRecDepth 100000 in
theorem q977 : (Jvm.Cond.constantLong "CoatsOnChairsModel" (240 : Nat) (65521 : Int64)) ∈ gT := gT_mem 977 rfl rfl
set_option maxRecDepth 100000 in
theorem q978 : (Jvm.Cond.methodLink "CoatsOnChairsLaw" (114 : Nat) ({ cls := "CoatsOnChairsModel", name := "ten", desc := "(II)I" } : Jvm.MethodName)) ∈ gT := gT_mem 978 rfl rfl
set_option maxRecDepth 100000 in
theorem q979 : (Jvm.Cond.instanceMethod ({ cls := "CoatsOnChairsModel", name := "ten", desc := "(II)I" } : Jvm.MethodName)) ∈ gT := gT_mem 979 rfl rfl
set_option maxRecDepth 100000 in
theorem q980 : (Jvm.Cond.selects "CoatsOnChairsModel" ({ cls := "CoatsOnChairsModel", name := "ten", desc := "(II)I" } : Jvm.MethodName) ({ cls := "CoatsOnChairsModel", name := "ten", desc := "(II)I" } : Jvm.MethodName)) ∈ gT := gT_mem 980 rfl rfl
set_option maxRecDepth 100000 in
theorem q981 : (Jvm.Cond.code ({ cls := "CoatsOnChairsModel", name := "ten", desc := "(II)I" } : Jvm.MethodName) prog_9_method_53_code (5 : Nat) (Option.some Jvm.ClassFile.FieldType.int)) ∈ gT := gT_mem 981 rfl rfl
set_option maxRecDepth 100000 in
theorem q982 : (Jvm.Cond.methodLink "CoatsOnChairsLaw" (118 : Nat) ({ cls := "CoatsOnChairsModel", name := "keep", desc := "()I" } : Jvm.MethodName)) ∈ gT := gT_mem 982 rfl rfl
set_option maxRecDepth 100000 in
theorem q983 : (Jvm.Cond.instanceMethod ({ cls := "CoatsOnChairsModel", name := "keep", desc := "()I" } : Jvm.MethodName)) ∈ gT := gT_mem 983 rfl rfl
set_option maxRecDepth 100000 in
theorem q984 : (Jvm.Cond.selects "CoatsOnChairsModel" ({ cls := "CoatsOnChairsModel", name := "keep", desc := "()I" } : Jvm.MethodName) ({ cls := "CoatsOnChairsModel", name := "keep", desc := "()I" } : Jvm.MethodName)) ∈ gT := gT_mem 984 rfl rfl
set_option maxRecDepth 100000 in
theorem q985 : (Jvm.Cond.code ({ cls := "CoatsOnChairsModel", name := "keep", desc := "()I" } : Jvm.MethodName) prog_9_method_54_code (1 : Nat) (Option.some Jvm.ClassFile.FieldType.int)) ∈ gT := gT_mem 985 rfl rfl
set_option maxRecDepth 100000 in
theorem q986 : (Jvm.Cond.methodLink "CoatsOnChairsLaw" (122 : Nat) ({ cls := "CoatsOnChairsModel", name := "back", desc := "()I" } : Jvm.MethodName)) ∈ gT := gT_mem 986 rfl rfl
set_option maxRecDepth 100000 in
theorem q987 : (Jvm.Cond.instanceMethod ({ cls := "CoatsOnChairsModel", name := "back", desc := "()I" } : Jvm.MethodName)) ∈ gT := gT_mem 987 rfl rfl
set_option maxRecDepth 100000 in
theorem q988 : (Jvm.Cond.selects "CoatsOnChairsModel" ({ cls := "CoatsOnChairsModel", name := "back", desc := "()I" } : Jvm.MethodName) ({ cls := "CoatsOnChairsModel", name := "back", desc := "()I" } : Jvm.MethodName)) ∈ gT := gT_mem 988 rfl rfl
set_option maxRecDepth 100000 in
theorem q989 : (Jvm.Cond.code ({ cls := "CoatsOnChairsModel", name := "back", desc := "()I" } : Jvm.MethodName) prog_9_method_55_code (1 : Nat) (Option.some Jvm.ClassFile.FieldType.int)) ∈ gT := gT_mem 989 rfl rfl
set_option maxRecDepth 100000 in
theorem q990 : (Jvm.Cond.methodLink "CoatsOnChairsLaw" (126 : Nat) ({ cls := "CoatsOnChairsModel", name := "count", desc := "(I)I" } : Jvm.MethodName)) ∈ gT := gT_mem 990 rfl rfl
set_option maxRecDepth 100000 in
theorem q991 : (Jvm.Cond.instanceMethod ({ cls := "CoatsOnChairsModel", name := "count", desc := "(I)I" } : Jvm.MethodName)) ∈ gT := gT_mem 991 rfl rfl
set_option maxRecDepth 100000 in
theorem q992 : (Jvm.Cond.selects "CoatsOnChairsModel" ({ cls := "CoatsOnChairsModel", name := "count", desc := "(I)I" } : Jvm.MethodName) ({ cls := "CoatsOnChairsModel", name := "count", desc := "(I)I" } : Jvm.MethodName)) ∈ gT := gT_mem 992 rfl rfl
set_option maxRecDepth 100000 in
theorem q993 : (Jvm.Cond.code ({ cls := "CoatsOnChairsModel", name := "count", desc := "(I)I" } : Jvm.MethodName) prog_9_method_56_code (2 : Nat) (Option.some Jvm.ClassFile.FieldType.int)) ∈ gT := gT_mem 993 rfl rfl
set_option maxRecDepth 100000 in
theorem q994 : (Jvm.Cond.constantLong "CoatsOnChairsLaw" (13 : Nat) (4294967295 : Int64)) ∈ gT := gT_mem 994 rfl rfl
end
section
theorem dX0_init_0 : decode cX0_init 0 = .ok (.aload_n 0, 1) := by decide +kernel
theorem dX0_init_1 : decode cX0_init 1 = .ok (.invokespecial 3, 3) := by decide +kernel
theorem dX0_init_4 : decode cX0_init 4 = .ok (.aload_n 0, 1) := by decide +kernel
theorem dX0_init_5 : decode cX0_init 5 = .ok (.bipush 8, 2) := by decide +kernel
theorem dX0_init_7 : decode cX0_init 7 = .ok (.newarray .int, 2) := by decide +kernel
theorem dX0_init_9 : decode cX0_init 9 = .ok (.putfield 9, 3) := by decide +kernel
theorem dX0_init_12 : decode cX0_init 12 = .ok (.aload_n 0, 1) := by decide +kernel
theorem dX0_init_13 : decode cX0_init 13 = .ok (.bipush 8, 2) := by decide +kernel
theorem dX0_init_15 : decode cX0_init 15 = .ok (.newarray .int, 2) := by decide +kernel
theorem dX0_init_17 : decode cX0_init 17 = .ok (.putfield 15, 3) := by decide +kernel
theorem dX0_init_20 : decode cX0_init 20 = .ok (.aload_n 0, 1) := by decide +kernel
theorem dX0_init_21 : decode cX0_init 21 = .ok (.bipush 8, 2) := by decide +kernel
theorem dX0_init_23 : decode cX0_init 23 = .ok (.newarray .int, 2) := by decide +kernel
theorem dX0_init_25 : decode cX0_init 25 = .ok (.putfield 18, 3) := by decide +kernel
theorem dX0_init_28 : decode cX0_init 28 = .ok (.aload_n 0, 1) := by decide +kernel
theorem dX0_init_29 : decode cX0_init 29 = .ok (.bipush 8, 2) := by decide +kernel
theorem dX0_init_31 : decode cX0_init 31 = .ok (.newarray .int, 2) := by decide +kernel
theorem dX0_init_33 : decode cX0_init 33 = .ok (.putfield 21, 3) := by decide +kernel
theorem dX0_init_36 : decode cX0_init 36 = .ok (.aload_n 0, 1) := by decide +kernel
theorem dX0_init_37 : decode cX0_init 37 = .ok (.bipush 8, 2) := by decide +kernel
theorem dX0_init_39 : decode cX0_init 39 = .ok (.newarray .int, 2) := by decide +kernel
theorem dX0_init_41 : decode cX0_init 41 = .ok (.putfield 24, 3) := by decide +kernel
theorem dX0_init_44 : decode cX0_init 44 = .ok (.aload_n 0, 1) := by decide +kernel
theorem dX0_init_45 : decode cX0_init 45 = .ok (.bipush 10, 2) := by decide +kernel
theorem dX0_init_47 : decode cX0_init 47 = .ok (.newarray .int, 2) := by decide +kernel
theorem dX0_init_49 : decode cX0_init 49 = .ok (.putfield 27, 3) := by decide +kernel
theorem dX0_init_52 : decode cX0_init 52 = .ok (.aload_n 0, 1) := by decide +kernel
theorem dX0_init_53 : decode cX0_init 53 = .ok (.bipush 10, 2) := by decide +kernel
theorem dX0_init_55 : decode cX0_init 55 = .ok (.newarray .int, 2) := by decide +kernel
theorem dX0_init_57 : decode cX0_init 57 = .ok (.putfield 30, 3) := by decide +kernel
theorem dX0_init_60 : decode cX0_init 60 = .ok (.aload_n 0, 1) := by decide +kernel
theorem dX0_init_61 : decode cX0_init 61 = .ok (.sipush 400, 3) := by decide +kernel
theorem dX0_init_64 : decode cX0_init 64 = .ok (.newarray .int, 2) := by decide +kernel
theorem dX0_init_66 : decode cX0_init 66 = .ok (.putfield 33, 3) := by decide +kernel
theorem dX0_init_69 : decode cX0_init 69 = .ok (.aload_n 0, 1) := by decide +kernel
theorem dX0_init_70 : decode cX0_init 70 = .ok (.aload_n 1, 1) := by decide +kernel
theorem dX0_init_71 : decode cX0_init 71 = .ok (.putfield 36, 3) := by decide +kernel
theorem dX0_init_74 : decode cX0_init 74 = .ok (.return_, 1) := by decide +kernel
theorem dX0_open_0 : decode cX0_open 0 = .ok (.aload_n 0, 1) := by decide +kernel
theorem dX0_open_1 : decode cX0_open 1 = .ok (.aload_n 1, 1) := by decide +kernel
theorem dX0_open_2 : decode cX0_open 2 = .ok (.putfield 36, 3) := by decide +kernel
theorem dX0_open_5 : decode cX0_open 5 = .ok (.aload_n 0, 1) := by decide +kernel
theorem dX0_open_6 : decode cX0_open 6 = .ok (.aload_n 1, 1) := by decide +kernel
theorem dX0_open_7 : decode cX0_open 7 = .ok (.invokevirtual 40, 3) := by decide +kernel
theorem dX0_open_10 : decode cX0_open 10 = .ok (.bipush 8, 2) := by decide +kernel
theorem dX0_open_12 : decode cX0_open 12 = .ok (.invokestatic 46, 3) := by decide +kernel
theorem dX0_open_15 : decode cX0_open 15 = .ok (.putfield 52, 3) := by decide +kernel
theorem dX0_open_18 : decode cX0_open 18 = .ok (.aload_n 0, 1) := by decide +kernel
theorem dX0_open_19 : decode cX0_open 19 = .ok (.aload_n 1, 1) := by decide +kernel
theorem dX0_open_20 : decode cX0_open 20 = .ok (.invokevirtual 56, 3) := by decide +kernel
theorem dX0_open_23 : decode cX0_open 23 = .ok (.bipush 10, 2) := by decide +kernel
theorem dX0_open_25 : decode cX0_open 25 = .ok (.invokestatic 46, 3) := by decide +kernel
theorem dX0_open_28 : decode cX0_open 28 = .ok (.putfield 59, 3) := by decide +kernel
theorem dX0_open_31 : decode cX0_open 31 = .ok (.aload_n 0, 1) := by decide +kernel
theorem dX0_open_32 : decode cX0_open 32 = .ok (.iload_n 2, 1) := by decide +kernel
theorem dX0_open_33 : decode cX0_open 33 = .ok (.putfield 62, 3) := by decide +kernel
theorem dX0_open_36 : decode cX0_open 36 = .ok (.aload_n 0, 1) := by decide +kernel
theorem dX0_open_37 : decode cX0_open 37 = .ok (.iload_n 2, 1) := by decide +kernel
theorem dX0_open_38 : decode cX0_open 38 = .ok (.iconst 1, 1) := by decide +kernel
theorem dX0_open_39 : decode cX0_open 39 = .ok (.if_icmp .ne 7, 3) := by decide +kernel
theorem dX0_open_42 : decode cX0_open 42 = .ok (.iconst 0, 1) := by decide +kernel
theorem dX0_open_43 : decode cX0_open 43 = .ok (.goto 4, 3) := by decide +kernel
theorem dX0_open_46 : decode cX0_open 46 = .ok (.iload_n 3, 1) := by decide +kernel
theorem dX0_open_47 : decode cX0_open 47 = .ok (.putfield 65, 3) := by decide +kernel
theorem dX0_open_50 : decode cX0_open 50 = .ok (.aload_n 0, 1) := by decide +kernel
theorem dX0_open_51 : decode cX0_open 51 = .ok (.aload_n 1, 1) := by decide +kernel
theorem dX0_open_52 : decode cX0_open 52 = .ok (.invokevirtual 68, 3) := by decide +kernel
theorem dX0_open_55 : decode cX0_open 55 = .ok (.aload_n 1, 1) := by decide +kernel
theorem dX0_open_56 : decode cX0_open 56 = .ok (.invokevirtual 71, 3) := by decide +kernel
theorem dX0_open_59 : decode cX0_open 59 = .ok (.invokevirtual 74, 3) := by decide +kernel
theorem dX0_open_62 : decode cX0_open 62 = .ok (.iconst 0, 1) := by decide +kernel
theorem dX0_open_63 : decode cX0_open 63 = .ok (.istore 4, 2) := by decide +kernel
theorem dX0_open_65 : decode cX0_open 65 = .ok (.iload 4, 2) := by decide +kernel
theorem dX0_open_67 : decode cX0_open 67 = .ok (.bipush 8, 2) := by decide +kernel
theorem dX0_open_69 : decode cX0_open 69 = .ok (.if_icmp .ge 55, 3) := by decide +kernel
theorem dX0_open_72 : decode cX0_open 72 = .ok (.aload_n 0, 1) := by decide +kernel
theorem dX0_open_73 : decode cX0_open 73 = .ok (.getfield 9, 3) := by decide +kernel
theorem dX0_open_76 : decode cX0_open 76 = .ok (.iload 4, 2) := by decide +kernel
theorem dX0_open_78 : decode cX0_open 78 = .ok (.iconst 0, 1) := by decide +kernel
theorem dX0_open_79 : decode cX0_open 79 = .ok (.iastore, 1) := by decide +kernel
theorem dX0_open_80 : decode cX0_open 80 = .ok (.aload_n 0, 1) := by decide +kernel
theorem dX0_open_81 : decode cX0_open 81 = .ok (.getfield 15, 3) := by decide +kernel
theorem dX0_open_84 : decode cX0_open 84 = .ok (.iload 4, 2) := by decide +kernel
theorem dX0_open_86 : decode cX0_open 86 = .ok (.iconst (-1), 1) := by decide +kernel
theorem dX0_open_87 : decode cX0_open 87 = .ok (.iastore, 1) := by decide +kernel
theorem dX0_open_88 : decode cX0_open 88 = .ok (.aload_n 0, 1) := by decide +kernel
theorem dX0_open_89 : decode cX0_open 89 = .ok (.getfield 18, 3) := by decide +kernel
theorem dX0_open_92 : decode cX0_open 92 = .ok (.iload 4, 2) := by decide +kernel
theorem dX0_open_94 : decode cX0_open 94 = .ok (.iconst 0, 1) := by decide +kernel
theorem dX0_open_95 : decode cX0_open 95 = .ok (.iastore, 1) := by decide +kernel
theorem dX0_open_96 : decode cX0_open 96 = .ok (.aload_n 0, 1) := by decide +kernel
theorem dX0_open_97 : decode cX0_open 97 = .ok (.getfield 21, 3) := by decide +kernel
theorem dX0_open_100 : decode cX0_open 100 = .ok (.iload 4, 2) := by decide +kernel
theorem dX0_open_102 : decode cX0_open 102 = .ok (.iconst 0, 1) := by decide +kernel
theorem dX0_open_103 : decode cX0_open 103 = .ok (.iastore, 1) := by decide +kernel
theorem dX0_open_104 : decode cX0_open 104 = .ok (.aload_n 0, 1) := by decide +kernel
theorem dX0_open_105 : decode cX0_open 105 = .ok (.getfield 24, 3) := by decide +kernel
theorem dX0_open_108 : decode cX0_open 108 = .ok (.iload 4, 2) := by decide +kernel
theorem dX0_open_110 : decode cX0_open 110 = .ok (.aload_n 1, 1) := by decide +kernel
theorem dX0_open_111 : decode cX0_open 111 = .ok (.iload 4, 2) := by decide +kernel
theorem dX0_open_113 : decode cX0_open 113 = .ok (.iconst 0, 1) := by decide +kernel
theorem dX0_open_114 : decode cX0_open 114 = .ok (.invokevirtual 78, 3) := by decide +kernel
theorem dX0_open_117 : decode cX0_open 117 = .ok (.iastore, 1) := by decide +kernel
theorem dX0_open_118 : decode cX0_open 118 = .ok (.iinc 4 1, 3) := by decide +kernel
theorem dX0_open_121 : decode cX0_open 121 = .ok (.goto (-56), 3) := by decide +kernel
theorem dX0_open_124 : decode cX0_open 124 = .ok (.aload_n 0, 1) := by decide +kernel
theorem dX0_open_125 : decode cX0_open 125 = .ok (.getfield 27, 3) := by decide +kernel
theorem dX0_open_128 : decode cX0_open 128 = .ok (.iconst (-1), 1) := by decide +kernel
theorem dX0_open_129 : decode cX0_open 129 = .ok (.invokestatic 81, 3) := by decide +kernel
theorem dX0_open_132 : decode cX0_open 132 = .ok (.aload_n 0, 1) := by decide +kernel
theorem dX0_open_133 : decode cX0_open 133 = .ok (.getfield 30, 3) := by decide +kernel
theorem dX0_open_136 : decode cX0_open 136 = .ok (.iconst (-1), 1) := by decide +kernel
theorem dX0_open_137 : decode cX0_open 137 = .ok (.invokestatic 81, 3) := by decide +kernel
theorem dX0_open_140 : decode cX0_open 140 = .ok (.aload_n 0, 1) := by decide +kernel
theorem dX0_open_141 : decode cX0_open 141 = .ok (.iconst 0, 1) := by decide +kernel
theorem dX0_open_142 : decode cX0_open 142 = .ok (.putfield 87, 3) := by decide +kernel
theorem dX0_open_145 : decode cX0_open 145 = .ok (.aload_n 0, 1) := by decide +kernel
theorem dX0_open_146 : decode cX0_open 146 = .ok (.aload_n 0, 1) := by decide +kernel
theorem dX0_open_147 : decode cX0_open 147 = .ok (.getfield 52, 3) := by decide +kernel
theorem dX0_open_150 : decode cX0_open 150 = .ok (.putfield 90, 3) := by decide +kernel
theorem dX0_open_153 : decode cX0_open 153 = .ok (.aload_n 0, 1) := by decide +kernel
theorem dX0_open_154 : decode cX0_open 154 = .ok (.iconst 0, 1) := by decide +kernel
theorem dX0_open_155 : decode cX0_open 155 = .ok (.putfield 93, 3) := by decide +kernel
theorem dX0_open_158 : decode cX0_open 158 = .ok (.aload_n 0, 1) := by decide +kernel
theorem dX0_open_159 : decode cX0_open 159 = .ok (.iconst 0, 1) := by decide +kernel
theorem dX0_open_160 : decode cX0_open 160 = .ok (.putfield 96, 3) := by decide +kernel
theorem dX0_open_163 : decode cX0_open 163 = .ok (.aload_n 0, 1) := by decide +kernel
theorem dX0_open_164 : decode cX0_open 164 = .ok (.iconst 0, 1) := by decide +kernel
theorem dX0_open_165 : decode cX0_open 165 = .ok (.putfield 99, 3) := by decide +kernel
theorem dX0_open_168 : decode cX0_open 168 = .ok (.return_, 1) := by decide +kernel
theorem dX0_useCards_0 : decode cX0_useCards 0 = .ok (.aload_n 0, 1) := by decide +kernel
theorem dX0_useCards_1 : decode cX0_useCards 1 = .ok (.iload_n 1, 1) := by decide +kernel
theorem dX0_useCards_2 : decode cX0_useCards 2 = .ok (.putfield 102, 3) := by decide +kernel
theorem dX0_useCards_5 : decode cX0_useCards 5 = .ok (.aload_n 0, 1) := by decide +kernel
theorem dX0_useCards_6 : decode cX0_useCards 6 = .ok (.iload_n 2, 1) := by decide +kernel
theorem dX0_useCards_7 : decode cX0_useCards 7 = .ok (.putfield 104, 3) := by decide +kernel
theorem dX0_useCards_10 : decode cX0_useCards 10 = .ok (.return_, 1) := by decide +kernel
theorem dX0_comeLater_0 : decode cX0_comeLater 0 = .ok (.aload_n 0, 1) := by decide +kernel
theorem dX0_comeLater_1 : decode cX0_comeLater 1 = .ok (.getfield 36, 3) := by decide +kernel
theorem dX0_comeLater_4 : decode cX0_comeLater 4 = .ok (.invokevirtual 106, 3) := by decide +kernel
theorem dX0_comeLater_7 : decode cX0_comeLater 7 = .ok (.iconst 1, 1) := by decide +kernel
theorem dX0_comeLater_8 : decode cX0_comeLater 8 = .ok (.iadd, 1) := by decide +kernel
theorem dX0_comeLater_9 : decode cX0_comeLater 9 = .ok (.istore_n 2, 1) := by decide +kernel
theorem dX0_comeLater_10 : decode cX0_comeLater 10 = .ok (.iconst 0, 1) := by decide +kernel
theorem dX0_comeLater_11 : decode cX0_comeLater 11 = .ok (.istore_n 3, 1) := by decide +kernel
theorem dX0_comeLater_12 : decode cX0_comeLater 12 = .ok (.iload_n 3, 1) := by decide +kernel
theorem dX0_comeLater_13 : decode cX0_comeLater 13 = .ok (.aload_n 0, 1) := by decide +kernel
theorem dX0_comeLater_14 : decode cX0_comeLater 14 = .ok (.getfield 52, 3) := by decide +kernel
theorem dX0_comeLater_17 : decode cX0_comeLater 17 = .ok (.if_icmp .ge 52, 3) := by decide +kernel
theorem dX0_comeLater_20 : decode cX0_comeLater 20 = .ok (.iload_n 2, 1) := by decide +kernel
theorem dX0_comeLater_21 : decode cX0_comeLater 21 = .ok (.ifCond .le 48, 3) := by decide +kernel
theorem dX0_comeLater_24 : decode cX0_comeLater 24 = .ok (.ldc2_w 109, 3) := by decide +kernel
theorem dX0_comeLater_27 : decode cX0_comeLater 27 = .ok (.iload_n 1, 1) := by decide +kernel
theorem dX0_comeLater_28 : decode cX0_comeLater 28 = .ok (.i2l, 1) := by decide +kernel
theorem dX0_comeLater_29 : decode cX0_comeLater 29 = .ok (.lmul, 1) := by decide +kernel
theorem dX0_comeLater_30 : decode cX0_comeLater 30 = .ok (.ldc2_w 111, 3) := by decide +kernel
theorem dX0_comeLater_33 : decode cX0_comeLater 33 = .ok (.iload_n 3, 1) := by decide +kernel
theorem dX0_comeLater_34 : decode cX0_comeLater 34 = .ok (.i2l, 1) := by decide +kernel
theorem dX0_comeLater_35 : decode cX0_comeLater 35 = .ok (.lmul, 1) := by decide +kernel
theorem dX0_comeLater_36 : decode cX0_comeLater 36 = .ok (.ladd, 1) := by decide +kernel
theorem dX0_comeLater_37 : decode cX0_comeLater 37 = .ok (.lconst 1, 1) := by decide +kernel
theorem dX0_comeLater_38 : decode cX0_comeLater 38 = .ok (.ladd, 1) := by decide +kernel
theorem dX0_comeLater_39 : decode cX0_comeLater 39 = .ok (.lstore 4, 2) := by decide +kernel
theorem dX0_comeLater_41 : decode cX0_comeLater 41 = .ok (.aload_n 0, 1) := by decide +kernel
theorem dX0_comeLater_42 : decode cX0_comeLater 42 = .ok (.getfield 24, 3) := by decide +kernel
theorem dX0_comeLater_45 : decode cX0_comeLater 45 = .ok (.iload_n 3, 1) := by decide +kernel
theorem dX0_comeLater_46 : decode cX0_comeLater 46 = .ok (.dup2, 1) := by decide +kernel
theorem dX0_comeLater_47 : decode cX0_comeLater 47 = .ok (.iaload, 1) := by decide +kernel
theorem dX0_comeLater_48 : decode cX0_comeLater 48 = .ok (.lload 4, 2) := by decide +kernel
theorem dX0_comeLater_50 : decode cX0_comeLater 50 = .ok (.lload 4, 2) := by decide +kernel
theorem dX0_comeLater_52 : decode cX0_comeLater 52 = .ok (.lmul, 1) := by decide +kernel
theorem dX0_comeLater_53 : decode cX0_comeLater 53 = .ok (.ldc2_w 113, 3) := by decide +kernel
theorem dX0_comeLater_56 : decode cX0_comeLater 56 = .ok (.lrem, 1) := by decide +kernel
theorem dX0_comeLater_57 : decode cX0_comeLater 57 = .ok (.iload_n 2, 1) := by decide +kernel
theorem dX0_comeLater_58 : decode cX0_comeLater 58 = .ok (.i2l, 1) := by decide +kernel
theorem dX0_comeLater_59 : decode cX0_comeLater 59 = .ok (.lrem, 1) := by decide +kernel
theorem dX0_comeLater_60 : decode cX0_comeLater 60 = .ok (.l2i, 1) := by decide +kernel
theorem dX0_comeLater_61 : decode cX0_comeLater 61 = .ok (.iadd, 1) := by decide +kernel
theorem dX0_comeLater_62 : decode cX0_comeLater 62 = .ok (.iastore, 1) := by decide +kernel
theorem dX0_comeLater_63 : decode cX0_comeLater 63 = .ok (.iinc 3 1, 3) := by decide +kernel
theorem dX0_comeLater_66 : decode cX0_comeLater 66 = .ok (.goto (-54), 3) := by decide +kernel
theorem dX0_comeLater_69 : decode cX0_comeLater 69 = .ok (.return_, 1) := by decide +kernel
theorem dX0_runTo_0 : decode cX0_runTo 0 = .ok (.aload_n 0, 1) := by decide +kernel
theorem dX0_runTo_1 : decode cX0_runTo 1 = .ok (.getfield 87, 3) := by decide +kernel
theorem dX0_runTo_4 : decode cX0_runTo 4 = .ok (.istore_n 2, 1) := by decide +kernel
theorem dX0_runTo_5 : decode cX0_runTo 5 = .ok (.iload_n 2, 1) := by decide +kernel
theorem dX0_runTo_6 : decode cX0_runTo 6 = .ok (.iload_n 1, 1) := by decide +kernel
theorem dX0_runTo_7 : decode cX0_runTo 7 = .ok (.if_icmp .gt 55, 3) := by decide +kernel
theorem dX0_runTo_10 : decode cX0_runTo 10 = .ok (.iload_n 2, 1) := by decide +kernel
theorem dX0_runTo_11 : decode cX0_runTo 11 = .ok (.sipush 400, 3) := by decide +kernel
theorem dX0_runTo_14 : decode cX0_runTo 14 = .ok (.if_icmp .ge 48, 3) := by decide +kernel
theorem dX0_runTo_17 : decode cX0_runTo 17 = .ok (.aload_n 0, 1) := by decide +kernel
theorem dX0_runTo_18 : decode cX0_runTo 18 = .ok (.getfield 90, 3) := by decide +kernel
theorem dX0_runTo_21 : decode cX0_runTo 21 = .ok (.ifCond .le 41, 3) := by decide +kernel
theorem dX0_runTo_24 : decode cX0_runTo 24 = .ok (.aload_n 0, 1) := by decide +kernel
theorem dX0_runTo_25 : decode cX0_runTo 25 = .ok (.iload_n 2, 1) := by decide +kernel
theorem dX0_runTo_26 : decode cX0_runTo 26 = .ok (.invokevirtual 115, 3) := by decide +kernel
theorem dX0_runTo_29 : decode cX0_runTo 29 = .ok (.aload_n 0, 1) := by decide +kernel
theorem dX0_runTo_30 : decode cX0_runTo 30 = .ok (.iload_n 2, 1) := by decide +kernel
theorem dX0_runTo_31 : decode cX0_runTo 31 = .ok (.invokevirtual 119, 3) := by decide +kernel
theorem dX0_runTo_34 : decode cX0_runTo 34 = .ok (.aload_n 0, 1) := by decide +kernel
theorem dX0_runTo_35 : decode cX0_runTo 35 = .ok (.iload_n 2, 1) := by decide +kernel
theorem dX0_runTo_36 : decode cX0_runTo 36 = .ok (.invokevirtual 122, 3) := by decide +kernel
theorem dX0_runTo_39 : decode cX0_runTo 39 = .ok (.aload_n 0, 1) := by decide +kernel
theorem dX0_runTo_40 : decode cX0_runTo 40 = .ok (.iload_n 2, 1) := by decide +kernel
theorem dX0_runTo_41 : decode cX0_runTo 41 = .ok (.invokevirtual 125, 3) := by decide +kernel
theorem dX0_runTo_44 : decode cX0_runTo 44 = .ok (.aload_n 0, 1) := by decide +kernel
theorem dX0_runTo_45 : decode cX0_runTo 45 = .ok (.iload_n 2, 1) := by decide +kernel
theorem dX0_runTo_46 : decode cX0_runTo 46 = .ok (.invokevirtual 128, 3) := by decide +kernel
theorem dX0_runTo_49 : decode cX0_runTo 49 = .ok (.aload_n 0, 1) := by decide +kernel
theorem dX0_runTo_50 : decode cX0_runTo 50 = .ok (.iload_n 2, 1) := by decide +kernel
theorem dX0_runTo_51 : decode cX0_runTo 51 = .ok (.iconst 1, 1) := by decide +kernel
theorem dX0_runTo_52 : decode cX0_runTo 52 = .ok (.iadd, 1) := by decide +kernel
theorem dX0_runTo_53 : decode cX0_runTo 53 = .ok (.putfield 87, 3) := by decide +kernel
theorem dX0_runTo_56 : decode cX0_runTo 56 = .ok (.iinc 2 1, 3) := by decide +kernel
theorem dX0_runTo_59 : decode cX0_runTo 59 = .ok (.goto (-54), 3) := by decide +kernel
theorem dX0_runTo_62 : decode cX0_runTo 62 = .ok (.return_, 1) := by decide +kernel
theorem dX0_comeBack_0 : decode cX0_comeBack 0 = .ok (.iconst 0, 1) := by decide +kernel
theorem dX0_comeBack_1 : decode cX0_comeBack 1 = .ok (.istore_n 2, 1) := by decide +kernel
theorem dX0_comeBack_2 : decode cX0_comeBack 2 = .ok (.iload_n 2, 1) := by decide +kernel
theorem dX0_comeBack_3 : decode cX0_comeBack 3 = .ok (.aload_n 0, 1) := by decide +kernel
theorem dX0_comeBack_4 : decode cX0_comeBack 4 = .ok (.getfield 52, 3) := by decide +kernel
theorem dX0_comeBack_7 : decode cX0_comeBack 7 = .ok (.if_icmp .ge 98, 3) := by decide +kernel
theorem dX0_comeBack_10 : decode cX0_comeBack 10 = .ok (.aload_n 0, 1) := by decide +kernel
theorem dX0_comeBack_11 : decode cX0_comeBack 11 = .ok (.getfield 9, 3) := by decide +kernel
theorem dX0_comeBack_14 : decode cX0_comeBack 14 = .ok (.iload_n 2, 1) := by decide +kernel
theorem dX0_comeBack_15 : decode cX0_comeBack 15 = .ok (.iaload, 1) := by decide +kernel
theorem dX0_comeBack_16 : decode cX0_comeBack 16 = .ok (.iconst 3, 1) := by decide +kernel
theorem dX0_comeBack_17 : decode cX0_comeBack 17 = .ok (.if_icmp .ne 82, 3) := by decide +kernel
theorem dX0_comeBack_20 : decode cX0_comeBack 20 = .ok (.iload_n 1, 1) := by decide +kernel
theorem dX0_comeBack_21 : decode cX0_comeBack 21 = .ok (.aload_n 0, 1) := by decide +kernel
theorem dX0_comeBack_22 : decode cX0_comeBack 22 = .ok (.getfield 18, 3) := by decide +kernel
theorem dX0_comeBack_25 : decode cX0_comeBack 25 = .ok (.iload_n 2, 1) := by decide +kernel
theorem dX0_comeBack_26 : decode cX0_comeBack 26 = .ok (.iaload, 1) := by decide +kernel
theorem dX0_comeBack_27 : decode cX0_comeBack 27 = .ok (.isub, 1) := by decide +kernel
theorem dX0_comeBack_28 : decode cX0_comeBack 28 = .ok (.aload_n 0, 1) := by decide +kernel
theorem dX0_comeBack_29 : decode cX0_comeBack 29 = .ok (.getfield 36, 3) := by decide +kernel
theorem dX0_comeBack_32 : decode cX0_comeBack 32 = .ok (.iload_n 2, 1) := by decide +kernel
theorem dX0_comeBack_33 : decode cX0_comeBack 33 = .ok (.iconst 3, 1) := by decide +kernel
theorem dX0_comeBack_34 : decode cX0_comeBack 34 = .ok (.invokevirtual 78, 3) := by decide +kernel
theorem dX0_comeBack_37 : decode cX0_comeBack 37 = .ok (.if_icmp .eq 6, 3) := by decide +kernel
theorem dX0_comeBack_40 : decode cX0_comeBack 40 = .ok (.goto 59, 3) := by decide +kernel
theorem dX0_comeBack_43 : decode cX0_comeBack 43 = .ok (.aload_n 0, 1) := by decide +kernel
theorem dX0_comeBack_44 : decode cX0_comeBack 44 = .ok (.getfield 15, 3) := by decide +kernel
theorem dX0_comeBack_47 : decode cX0_comeBack 47 = .ok (.iload_n 2, 1) := by decide +kernel
theorem dX0_comeBack_48 : decode cX0_comeBack 48 = .ok (.iaload, 1) := by decide +kernel
theorem dX0_comeBack_49 : decode cX0_comeBack 49 = .ok (.istore_n 3, 1) := by decide +kernel
theorem dX0_comeBack_50 : decode cX0_comeBack 50 = .ok (.aload_n 0, 1) := by decide +kernel
theorem dX0_comeBack_51 : decode cX0_comeBack 51 = .ok (.iload_n 3, 1) := by decide +kernel
theorem dX0_comeBack_52 : decode cX0_comeBack 52 = .ok (.invokevirtual 131, 3) := by decide +kernel
theorem dX0_comeBack_55 : decode cX0_comeBack 55 = .ok (.iload_n 2, 1) := by decide +kernel
theorem dX0_comeBack_56 : decode cX0_comeBack 56 = .ok (.if_icmp .ne 12, 3) := by decide +kernel
theorem dX0_comeBack_59 : decode cX0_comeBack 59 = .ok (.aload_n 0, 1) := by decide +kernel
theorem dX0_comeBack_60 : decode cX0_comeBack 60 = .ok (.iload_n 2, 1) := by decide +kernel
theorem dX0_comeBack_61 : decode cX0_comeBack 61 = .ok (.iload_n 3, 1) := by decide +kernel
theorem dX0_comeBack_62 : decode cX0_comeBack 62 = .ok (.invokevirtual 135, 3) := by decide +kernel
theorem dX0_comeBack_65 : decode cX0_comeBack 65 = .ok (.goto 34, 3) := by decide +kernel
theorem dX0_comeBack_68 : decode cX0_comeBack 68 = .ok (.aload_n 0, 1) := by decide +kernel
theorem dX0_comeBack_69 : decode cX0_comeBack 69 = .ok (.getfield 9, 3) := by decide +kernel
theorem dX0_comeBack_72 : decode cX0_comeBack 72 = .ok (.iload_n 2, 1) := by decide +kernel
theorem dX0_comeBack_73 : decode cX0_comeBack 73 = .ok (.iconst 1, 1) := by decide +kernel
theorem dX0_comeBack_74 : decode cX0_comeBack 74 = .ok (.iastore, 1) := by decide +kernel
theorem dX0_comeBack_75 : decode cX0_comeBack 75 = .ok (.aload_n 0, 1) := by decide +kernel
theorem dX0_comeBack_76 : decode cX0_comeBack 76 = .ok (.getfield 18, 3) := by decide +kernel
theorem dX0_comeBack_79 : decode cX0_comeBack 79 = .ok (.iload_n 2, 1) := by decide +kernel
theorem dX0_comeBack_80 : decode cX0_comeBack 80 = .ok (.iload_n 1, 1) := by decide +kernel
theorem dX0_comeBack_81 : decode cX0_comeBack 81 = .ok (.iastore, 1) := by decide +kernel
theorem dX0_comeBack_82 : decode cX0_comeBack 82 = .ok (.aload_n 0, 1) := by decide +kernel
theorem dX0_comeBack_83 : decode cX0_comeBack 83 = .ok (.dup, 1) := by decide +kernel
theorem dX0_comeBack_84 : decode cX0_comeBack 84 = .ok (.getfield 99, 3) := by decide +kernel
theorem dX0_comeBack_87 : decode cX0_comeBack 87 = .ok (.aload_n 0, 1) := by decide +kernel
theorem dX0_comeBack_88 : decode cX0_comeBack 88 = .ok (.getfield 65, 3) := by decide +kernel
theorem dX0_comeBack_91 : decode cX0_comeBack 91 = .ok (.iconst 1, 1) := by decide +kernel
theorem dX0_comeBack_92 : decode cX0_comeBack 92 = .ok (.iload_n 2, 1) := by decide +kernel
theorem dX0_comeBack_93 : decode cX0_comeBack 93 = .ok (.ishl, 1) := by decide +kernel
theorem dX0_comeBack_94 : decode cX0_comeBack 94 = .ok (.iand, 1) := by decide +kernel
theorem dX0_comeBack_95 : decode cX0_comeBack 95 = .ok (.ior, 1) := by decide +kernel
theorem dX0_comeBack_96 : decode cX0_comeBack 96 = .ok (.putfield 99, 3) := by decide +kernel
theorem dX0_comeBack_99 : decode cX0_comeBack 99 = .ok (.iinc 2 1, 3) := by decide +kernel
theorem dX0_comeBack_102 : decode cX0_comeBack 102 = .ok (.goto (-100), 3) := by decide +kernel
theorem dX0_comeBack_105 : decode cX0_comeBack 105 = .ok (.return_, 1) := by decide +kernel
theorem dX0_freeHeld_0 : decode cX0_freeHeld 0 = .ok (.aload_n 0, 1) := by decide +kernel
theorem dX0_freeHeld_1 : decode cX0_freeHeld 1 = .ok (.getfield 62, 3) := by decide +kernel
theorem dX0_freeHeld_4 : decode cX0_freeHeld 4 = .ok (.iconst 2, 1) := by decide +kernel
theorem dX0_freeHeld_5 : decode cX0_freeHeld 5 = .ok (.if_icmp .ne 23, 3) := by decide +kernel
theorem dX0_freeHeld_8 : decode cX0_freeHeld 8 = .ok (.aload_n 0, 1) := by decide +kernel
theorem dX0_freeHeld_9 : decode cX0_freeHeld 9 = .ok (.getfield 104, 3) := by decide +kernel
theorem dX0_freeHeld_12 : decode cX0_freeHeld 12 = .ok (.ifCond .le 16, 3) := by decide +kernel
theorem dX0_freeHeld_15 : decode cX0_freeHeld 15 = .ok (.iload_n 1, 1) := by decide +kernel
theorem dX0_freeHeld_16 : decode cX0_freeHeld 16 = .ok (.aload_n 0, 1) := by decide +kernel
theorem dX0_freeHeld_17 : decode cX0_freeHeld 17 = .ok (.getfield 104, 3) := by decide +kernel
theorem dX0_freeHeld_20 : decode cX0_freeHeld 20 = .ok (.irem, 1) := by decide +kernel
theorem dX0_freeHeld_21 : decode cX0_freeHeld 21 = .ok (.ifCond .ne 7, 3) := by decide +kernel
theorem dX0_freeHeld_24 : decode cX0_freeHeld 24 = .ok (.iconst 1, 1) := by decide +kernel
theorem dX0_freeHeld_25 : decode cX0_freeHeld 25 = .ok (.goto 4, 3) := by decide +kernel
theorem dX0_freeHeld_28 : decode cX0_freeHeld 28 = .ok (.iconst 0, 1) := by decide +kernel
theorem dX0_freeHeld_29 : decode cX0_freeHeld 29 = .ok (.istore_n 2, 1) := by decide +kernel
theorem dX0_freeHeld_30 : decode cX0_freeHeld 30 = .ok (.iload_n 2, 1) := by decide +kernel
theorem dX0_freeHeld_31 : decode cX0_freeHeld 31 = .ok (.ifCond .ne 12, 3) := by decide +kernel
theorem dX0_freeHeld_34 : decode cX0_freeHeld 34 = .ok (.aload_n 0, 1) := by decide +kernel
theorem dX0_freeHeld_35 : decode cX0_freeHeld 35 = .ok (.getfield 62, 3) := by decide +kernel
theorem dX0_freeHeld_38 : decode cX0_freeHeld 38 = .ok (.iconst 3, 1) := by decide +kernel
theorem dX0_freeHeld_39 : decode cX0_freeHeld 39 = .ok (.if_icmp .eq 4, 3) := by decide +kernel
theorem dX0_freeHeld_42 : decode cX0_freeHeld 42 = .ok (.return_, 1) := by decide +kernel
theorem dX0_freeHeld_43 : decode cX0_freeHeld 43 = .ok (.iload_n 2, 1) := by decide +kernel
theorem dX0_freeHeld_44 : decode cX0_freeHeld 44 = .ok (.ifCond .eq 10, 3) := by decide +kernel
theorem dX0_freeHeld_47 : decode cX0_freeHeld 47 = .ok (.aload_n 0, 1) := by decide +kernel
theorem dX0_freeHeld_48 : decode cX0_freeHeld 48 = .ok (.getfield 102, 3) := by decide +kernel
theorem dX0_freeHeld_51 : decode cX0_freeHeld 51 = .ok (.goto 10, 3) := by decide +kernel
theorem dX0_freeHeld_54 : decode cX0_freeHeld 54 = .ok (.aload_n 0, 1) := by decide +kernel
theorem dX0_freeHeld_55 : decode cX0_freeHeld 55 = .ok (.getfield 36, 3) := by decide +kernel
theorem dX0_freeHeld_58 : decode cX0_freeHeld 58 = .ok (.invokevirtual 138, 3) := by decide +kernel
theorem dX0_freeHeld_61 : decode cX0_freeHeld 61 = .ok (.istore_n 3, 1) := by decide +kernel
theorem dX0_freeHeld_62 : decode cX0_freeHeld 62 = .ok (.iconst 0, 1) := by decide +kernel
theorem dX0_freeHeld_63 : decode cX0_freeHeld 63 = .ok (.istore 4, 2) := by decide +kernel
theorem dX0_freeHeld_65 : decode cX0_freeHeld 65 = .ok (.iload 4, 2) := by decide +kernel
theorem dX0_freeHeld_67 : decode cX0_freeHeld 67 = .ok (.aload_n 0, 1) := by decide +kernel
theorem dX0_freeHeld_68 : decode cX0_freeHeld 68 = .ok (.getfield 59, 3) := by decide +kernel
theorem dX0_freeHeld_71 : decode cX0_freeHeld 71 = .ok (.if_icmp .ge 43, 3) := by decide +kernel
theorem dX0_freeHeld_74 : decode cX0_freeHeld 74 = .ok (.aload_n 0, 1) := by decide +kernel
theorem dX0_freeHeld_75 : decode cX0_freeHeld 75 = .ok (.getfield 30, 3) := by decide +kernel
theorem dX0_freeHeld_78 : decode cX0_freeHeld 78 = .ok (.iload 4, 2) := by decide +kernel
theorem dX0_freeHeld_80 : decode cX0_freeHeld 80 = .ok (.iaload, 1) := by decide +kernel
theorem dX0_freeHeld_81 : decode cX0_freeHeld 81 = .ok (.istore 5, 2) := by decide +kernel
theorem dX0_freeHeld_83 : decode cX0_freeHeld 83 = .ok (.iload 5, 2) := by decide +kernel
theorem dX0_freeHeld_85 : decode cX0_freeHeld 85 = .ok (.iconst (-1), 1) := by decide +kernel
theorem dX0_freeHeld_86 : decode cX0_freeHeld 86 = .ok (.if_icmp .eq 22, 3) := by decide +kernel
theorem dX0_freeHeld_89 : decode cX0_freeHeld 89 = .ok (.aload_n 0, 1) := by decide +kernel
theorem dX0_freeHeld_90 : decode cX0_freeHeld 90 = .ok (.iload 5, 2) := by decide +kernel
theorem dX0_freeHeld_92 : decode cX0_freeHeld 92 = .ok (.iload_n 1, 1) := by decide +kernel
theorem dX0_freeHeld_93 : decode cX0_freeHeld 93 = .ok (.invokevirtual 141, 3) := by decide +kernel
theorem dX0_freeHeld_96 : decode cX0_freeHeld 96 = .ok (.iload_n 3, 1) := by decide +kernel
theorem dX0_freeHeld_97 : decode cX0_freeHeld 97 = .ok (.if_icmp .lt 11, 3) := by decide +kernel
theorem dX0_freeHeld_100 : decode cX0_freeHeld 100 = .ok (.aload_n 0, 1) := by decide +kernel
theorem dX0_freeHeld_101 : decode cX0_freeHeld 101 = .ok (.getfield 30, 3) := by decide +kernel
theorem dX0_freeHeld_104 : decode cX0_freeHeld 104 = .ok (.iload 4, 2) := by decide +kernel
theorem dX0_freeHeld_106 : decode cX0_freeHeld 106 = .ok (.iconst (-1), 1) := by decide +kernel
theorem dX0_freeHeld_107 : decode cX0_freeHeld 107 = .ok (.iastore, 1) := by decide +kernel
theorem dX0_freeHeld_108 : decode cX0_freeHeld 108 = .ok (.iinc 4 1, 3) := by decide +kernel
theorem dX0_freeHeld_111 : decode cX0_freeHeld 111 = .ok (.goto (-46), 3) := by decide +kernel
theorem dX0_freeHeld_114 : decode cX0_freeHeld 114 = .ok (.return_, 1) := by decide +kernel
theorem dX0_seekSeats_0 : decode cX0_seekSeats 0 = .ok (.iconst 0, 1) := by decide +kernel
theorem dX0_seekSeats_1 : decode cX0_seekSeats 1 = .ok (.istore_n 2, 1) := by decide +kernel
theorem dX0_seekSeats_2 : decode cX0_seekSeats 2 = .ok (.iload_n 2, 1) := by decide +kernel
theorem dX0_seekSeats_3 : decode cX0_seekSeats 3 = .ok (.aload_n 0, 1) := by decide +kernel
theorem dX0_seekSeats_4 : decode cX0_seekSeats 4 = .ok (.getfield 52, 3) := by decide +kernel
theorem dX0_seekSeats_7 : decode cX0_seekSeats 7 = .ok (.if_icmp .ge 142, 3) := by decide +kernel
theorem dX0_seekSeats_10 : decode cX0_seekSeats 10 = .ok (.aload_n 0, 1) := by decide +kernel
theorem dX0_seekSeats_11 : decode cX0_seekSeats 11 = .ok (.getfield 9, 3) := by decide +kernel
theorem dX0_seekSeats_14 : decode cX0_seekSeats 14 = .ok (.iload_n 2, 1) := by decide +kernel
theorem dX0_seekSeats_15 : decode cX0_seekSeats 15 = .ok (.iaload, 1) := by decide +kernel
theorem dX0_seekSeats_16 : decode cX0_seekSeats 16 = .ok (.ifCond .ne 27, 3) := by decide +kernel
theorem dX0_seekSeats_19 : decode cX0_seekSeats 19 = .ok (.aload_n 0, 1) := by decide +kernel
theorem dX0_seekSeats_20 : decode cX0_seekSeats 20 = .ok (.getfield 24, 3) := by decide +kernel
theorem dX0_seekSeats_23 : decode cX0_seekSeats 23 = .ok (.iload_n 2, 1) := by decide +kernel
theorem dX0_seekSeats_24 : decode cX0_seekSeats 24 = .ok (.iaload, 1) := by decide +kernel
theorem dX0_seekSeats_25 : decode cX0_seekSeats 25 = .ok (.iload_n 1, 1) := by decide +kernel
theorem dX0_seekSeats_26 : decode cX0_seekSeats 26 = .ok (.if_icmp .ne 17, 3) := by decide +kernel
theorem dX0_seekSeats_29 : decode cX0_seekSeats 29 = .ok (.aload_n 0, 1) := by decide +kernel
theorem dX0_seekSeats_30 : decode cX0_seekSeats 30 = .ok (.getfield 9, 3) := by decide +kernel
theorem dX0_seekSeats_33 : decode cX0_seekSeats 33 = .ok (.iload_n 2, 1) := by decide +kernel
theorem dX0_seekSeats_34 : decode cX0_seekSeats 34 = .ok (.iconst 1, 1) := by decide +kernel
theorem dX0_seekSeats_35 : decode cX0_seekSeats 35 = .ok (.iastore, 1) := by decide +kernel
theorem dX0_seekSeats_36 : decode cX0_seekSeats 36 = .ok (.aload_n 0, 1) := by decide +kernel
theorem dX0_seekSeats_37 : decode cX0_seekSeats 37 = .ok (.getfield 18, 3) := by decide +kernel
theorem dX0_seekSeats_40 : decode cX0_seekSeats 40 = .ok (.iload_n 2, 1) := by decide +kernel
theorem dX0_seekSeats_41 : decode cX0_seekSeats 41 = .ok (.iload_n 1, 1) := by decide +kernel
theorem dX0_seekSeats_42 : decode cX0_seekSeats 42 = .ok (.iastore, 1) := by decide +kernel
theorem dX0_seekSeats_43 : decode cX0_seekSeats 43 = .ok (.aload_n 0, 1) := by decide +kernel
theorem dX0_seekSeats_44 : decode cX0_seekSeats 44 = .ok (.getfield 9, 3) := by decide +kernel
theorem dX0_seekSeats_47 : decode cX0_seekSeats 47 = .ok (.iload_n 2, 1) := by decide +kernel
theorem dX0_seekSeats_48 : decode cX0_seekSeats 48 = .ok (.iaload, 1) := by decide +kernel
theorem dX0_seekSeats_49 : decode cX0_seekSeats 49 = .ok (.iconst 1, 1) := by decide +kernel
theorem dX0_seekSeats_50 : decode cX0_seekSeats 50 = .ok (.if_icmp .eq 6, 3) := by decide +kernel
theorem dX0_seekSeats_53 : decode cX0_seekSeats 53 = .ok (.goto 90, 3) := by decide +kernel
theorem dX0_seekSeats_56 : decode cX0_seekSeats 56 = .ok (.aload_n 0, 1) := by decide +kernel
theorem dX0_seekSeats_57 : decode cX0_seekSeats 57 = .ok (.iload_n 2, 1) := by decide +kernel
theorem dX0_seekSeats_58 : decode cX0_seekSeats 58 = .ok (.invokevirtual 144, 3) := by decide +kernel
theorem dX0_seekSeats_61 : decode cX0_seekSeats 61 = .ok (.istore_n 3, 1) := by decide +kernel
theorem dX0_seekSeats_62 : decode cX0_seekSeats 62 = .ok (.iload_n 3, 1) := by decide +kernel
theorem dX0_seekSeats_63 : decode cX0_seekSeats 63 = .ok (.iconst (-1), 1) := by decide +kernel
theorem dX0_seekSeats_64 : decode cX0_seekSeats 64 = .ok (.if_icmp .ne 18, 3) := by decide +kernel
theorem dX0_seekSeats_67 : decode cX0_seekSeats 67 = .ok (.aload_n 0, 1) := by decide +kernel
theorem dX0_seekSeats_68 : decode cX0_seekSeats 68 = .ok (.getfield 62, 3) := by decide +kernel
theorem dX0_seekSeats_71 : decode cX0_seekSeats 71 = .ok (.iconst 4, 1) := by decide +kernel
theorem dX0_seekSeats_72 : decode cX0_seekSeats 72 = .ok (.if_icmp .ne 10, 3) := by decide +kernel
theorem dX0_seekSeats_75 : decode cX0_seekSeats 75 = .ok (.aload_n 0, 1) := by decide +kernel
theorem dX0_seekSeats_76 : decode cX0_seekSeats 76 = .ok (.iload_n 2, 1) := by decide +kernel
theorem dX0_seekSeats_77 : decode cX0_seekSeats 77 = .ok (.iload_n 1, 1) := by decide +kernel
theorem dX0_seekSeats_78 : decode cX0_seekSeats 78 = .ok (.invokevirtual 147, 3) := by decide +kernel
theorem dX0_seekSeats_81 : decode cX0_seekSeats 81 = .ok (.istore_n 3, 1) := by decide +kernel
theorem dX0_seekSeats_82 : decode cX0_seekSeats 82 = .ok (.iload_n 3, 1) := by decide +kernel
theorem dX0_seekSeats_83 : decode cX0_seekSeats 83 = .ok (.iconst (-1), 1) := by decide +kernel
theorem dX0_seekSeats_84 : decode cX0_seekSeats 84 = .ok (.if_icmp .eq 12, 3) := by decide +kernel
theorem dX0_seekSeats_87 : decode cX0_seekSeats 87 = .ok (.aload_n 0, 1) := by decide +kernel
theorem dX0_seekSeats_88 : decode cX0_seekSeats 88 = .ok (.iload_n 2, 1) := by decide +kernel
theorem dX0_seekSeats_89 : decode cX0_seekSeats 89 = .ok (.iload_n 3, 1) := by decide +kernel
theorem dX0_seekSeats_90 : decode cX0_seekSeats 90 = .ok (.invokevirtual 135, 3) := by decide +kernel
theorem dX0_seekSeats_93 : decode cX0_seekSeats 93 = .ok (.goto 50, 3) := by decide +kernel
theorem dX0_seekSeats_96 : decode cX0_seekSeats 96 = .ok (.iload_n 1, 1) := by decide +kernel
theorem dX0_seekSeats_97 : decode cX0_seekSeats 97 = .ok (.aload_n 0, 1) := by decide +kernel
theorem dX0_seekSeats_98 : decode cX0_seekSeats 98 = .ok (.getfield 18, 3) := by decide +kernel
theorem dX0_seekSeats_101 : decode cX0_seekSeats 101 = .ok (.iload_n 2, 1) := by decide +kernel
theorem dX0_seekSeats_102 : decode cX0_seekSeats 102 = .ok (.iaload, 1) := by decide +kernel
theorem dX0_seekSeats_103 : decode cX0_seekSeats 103 = .ok (.isub, 1) := by decide +kernel
theorem dX0_seekSeats_104 : decode cX0_seekSeats 104 = .ok (.aload_n 0, 1) := by decide +kernel
theorem dX0_seekSeats_105 : decode cX0_seekSeats 105 = .ok (.getfield 36, 3) := by decide +kernel
theorem dX0_seekSeats_108 : decode cX0_seekSeats 108 = .ok (.invokevirtual 150, 3) := by decide +kernel
theorem dX0_seekSeats_111 : decode cX0_seekSeats 111 = .ok (.if_icmp .lt 32, 3) := by decide +kernel
theorem dX0_seekSeats_114 : decode cX0_seekSeats 114 = .ok (.aload_n 0, 1) := by decide +kernel
theorem dX0_seekSeats_115 : decode cX0_seekSeats 115 = .ok (.getfield 9, 3) := by decide +kernel
theorem dX0_seekSeats_118 : decode cX0_seekSeats 118 = .ok (.iload_n 2, 1) := by decide +kernel
theorem dX0_seekSeats_119 : decode cX0_seekSeats 119 = .ok (.iconst 4, 1) := by decide +kernel
theorem dX0_seekSeats_120 : decode cX0_seekSeats 120 = .ok (.iastore, 1) := by decide +kernel
theorem dX0_seekSeats_121 : decode cX0_seekSeats 121 = .ok (.aload_n 0, 1) := by decide +kernel
theorem dX0_seekSeats_122 : decode cX0_seekSeats 122 = .ok (.dup, 1) := by decide +kernel
theorem dX0_seekSeats_123 : decode cX0_seekSeats 123 = .ok (.getfield 90, 3) := by decide +kernel
theorem dX0_seekSeats_126 : decode cX0_seekSeats 126 = .ok (.iconst 1, 1) := by decide +kernel
theorem dX0_seekSeats_127 : decode cX0_seekSeats 127 = .ok (.isub, 1) := by decide +kernel
theorem dX0_seekSeats_128 : decode cX0_seekSeats 128 = .ok (.putfield 90, 3) := by decide +kernel
theorem dX0_seekSeats_131 : decode cX0_seekSeats 131 = .ok (.aload_n 0, 1) := by decide +kernel
theorem dX0_seekSeats_132 : decode cX0_seekSeats 132 = .ok (.dup, 1) := by decide +kernel
theorem dX0_seekSeats_133 : decode cX0_seekSeats 133 = .ok (.getfield 96, 3) := by decide +kernel
theorem dX0_seekSeats_136 : decode cX0_seekSeats 136 = .ok (.iconst 1, 1) := by decide +kernel
theorem dX0_seekSeats_137 : decode cX0_seekSeats 137 = .ok (.iload_n 2, 1) := by decide +kernel
theorem dX0_seekSeats_138 : decode cX0_seekSeats 138 = .ok (.ishl, 1) := by decide +kernel
theorem dX0_seekSeats_139 : decode cX0_seekSeats 139 = .ok (.ior, 1) := by decide +kernel
theorem dX0_seekSeats_140 : decode cX0_seekSeats 140 = .ok (.putfield 96, 3) := by decide +kernel
theorem dX0_seekSeats_143 : decode cX0_seekSeats 143 = .ok (.iinc 2 1, 3) := by decide +kernel
theorem dX0_seekSeats_146 : decode cX0_seekSeats 146 = .ok (.goto (-144), 3) := by decide +kernel
theorem dX0_seekSeats_149 : decode cX0_seekSeats 149 = .ok (.return_, 1) := by decide +kernel
theorem dX0_freeSeatFor_0 : decode cX0_freeSeatFor 0 = .ok (.aload_n 0, 1) := by decide +kernel
theorem dX0_freeSeatFor_1 : decode cX0_freeSeatFor 1 = .ok (.getfield 36, 3) := by decide +kernel
theorem dX0_freeSeatFor_4 : decode cX0_freeSeatFor 4 = .ok (.iload_n 1, 1) := by decide +kernel
theorem dX0_freeSeatFor_5 : decode cX0_freeSeatFor 5 = .ok (.iconst 4, 1) := by decide +kernel
theorem dX0_freeSeatFor_6 : decode cX0_freeSeatFor 6 = .ok (.invokevirtual 78, 3) := by decide +kernel
theorem dX0_freeSeatFor_9 : decode cX0_freeSeatFor 9 = .ok (.istore_n 2, 1) := by decide +kernel
theorem dX0_freeSeatFor_10 : decode cX0_freeSeatFor 10 = .ok (.iconst (-1), 1) := by decide +kernel
theorem dX0_freeSeatFor_11 : decode cX0_freeSeatFor 11 = .ok (.istore_n 3, 1) := by decide +kernel
theorem dX0_freeSeatFor_12 : decode cX0_freeSeatFor 12 = .ok (.iconst (-1), 1) := by decide +kernel
theorem dX0_freeSeatFor_13 : decode cX0_freeSeatFor 13 = .ok (.istore 4, 2) := by decide +kernel
theorem dX0_freeSeatFor_15 : decode cX0_freeSeatFor 15 = .ok (.iconst 0, 1) := by decide +kernel
theorem dX0_freeSeatFor_16 : decode cX0_freeSeatFor 16 = .ok (.istore 5, 2) := by decide +kernel
theorem dX0_freeSeatFor_18 : decode cX0_freeSeatFor 18 = .ok (.iload 5, 2) := by decide +kernel
theorem dX0_freeSeatFor_20 : decode cX0_freeSeatFor 20 = .ok (.aload_n 0, 1) := by decide +kernel
theorem dX0_freeSeatFor_21 : decode cX0_freeSeatFor 21 = .ok (.getfield 59, 3) := by decide +kernel
theorem dX0_freeSeatFor_24 : decode cX0_freeSeatFor 24 = .ok (.if_icmp .ge 64, 3) := by decide +kernel
theorem dX0_freeSeatFor_27 : decode cX0_freeSeatFor 27 = .ok (.aload_n 0, 1) := by decide +kernel
theorem dX0_freeSeatFor_28 : decode cX0_freeSeatFor 28 = .ok (.getfield 27, 3) := by decide +kernel
theorem dX0_freeSeatFor_31 : decode cX0_freeSeatFor 31 = .ok (.iload 5, 2) := by decide +kernel
theorem dX0_freeSeatFor_33 : decode cX0_freeSeatFor 33 = .ok (.iaload, 1) := by decide +kernel
theorem dX0_freeSeatFor_34 : decode cX0_freeSeatFor 34 = .ok (.iconst (-1), 1) := by decide +kernel
theorem dX0_freeSeatFor_35 : decode cX0_freeSeatFor 35 = .ok (.if_icmp .ne 47, 3) := by decide +kernel
theorem dX0_freeSeatFor_38 : decode cX0_freeSeatFor 38 = .ok (.aload_n 0, 1) := by decide +kernel
theorem dX0_freeSeatFor_39 : decode cX0_freeSeatFor 39 = .ok (.getfield 30, 3) := by decide +kernel
theorem dX0_freeSeatFor_42 : decode cX0_freeSeatFor 42 = .ok (.iload 5, 2) := by decide +kernel
theorem dX0_freeSeatFor_44 : decode cX0_freeSeatFor 44 = .ok (.iaload, 1) := by decide +kernel
theorem dX0_freeSeatFor_45 : decode cX0_freeSeatFor 45 = .ok (.iconst (-1), 1) := by decide +kernel
theorem dX0_freeSeatFor_46 : decode cX0_freeSeatFor 46 = .ok (.if_icmp .eq 6, 3) := by decide +kernel
theorem dX0_freeSeatFor_49 : decode cX0_freeSeatFor 49 = .ok (.goto 33, 3) := by decide +kernel
theorem dX0_freeSeatFor_52 : decode cX0_freeSeatFor 52 = .ok (.aload_n 0, 1) := by decide +kernel
theorem dX0_freeSeatFor_53 : decode cX0_freeSeatFor 53 = .ok (.getfield 36, 3) := by decide +kernel
theorem dX0_freeSeatFor_56 : decode cX0_freeSeatFor 56 = .ok (.iload 5, 2) := by decide +kernel
theorem dX0_freeSeatFor_58 : decode cX0_freeSeatFor 58 = .ok (.invokevirtual 153, 3) := by decide +kernel
theorem dX0_freeSeatFor_61 : decode cX0_freeSeatFor 61 = .ok (.iload_n 2, 1) := by decide +kernel
theorem dX0_freeSeatFor_62 : decode cX0_freeSeatFor 62 = .ok (.iand, 1) := by decide +kernel
theorem dX0_freeSeatFor_63 : decode cX0_freeSeatFor 63 = .ok (.invokestatic 156, 3) := by decide +kernel
theorem dX0_freeSeatFor_66 : decode cX0_freeSeatFor 66 = .ok (.istore 6, 2) := by decide +kernel
theorem dX0_freeSeatFor_68 : decode cX0_freeSeatFor 68 = .ok (.iload 6, 2) := by decide +kernel
theorem dX0_freeSeatFor_70 : decode cX0_freeSeatFor 70 = .ok (.iload 4, 2) := by decide +kernel
theorem dX0_freeSeatFor_72 : decode cX0_freeSeatFor 72 = .ok (.if_icmp .le 10, 3) := by decide +kernel
theorem dX0_freeSeatFor_75 : decode cX0_freeSeatFor 75 = .ok (.iload 5, 2) := by decide +kernel
theorem dX0_freeSeatFor_77 : decode cX0_freeSeatFor 77 = .ok (.istore_n 3, 1) := by decide +kernel
theorem dX0_freeSeatFor_78 : decode cX0_freeSeatFor 78 = .ok (.iload 6, 2) := by decide +kernel
theorem dX0_freeSeatFor_80 : decode cX0_freeSeatFor 80 = .ok (.istore 4, 2) := by decide +kernel
theorem dX0_freeSeatFor_82 : decode cX0_freeSeatFor 82 = .ok (.iinc 5 1, 3) := by decide +kernel
theorem dX0_freeSeatFor_85 : decode cX0_freeSeatFor 85 = .ok (.goto (-67), 3) := by decide +kernel
theorem dX0_freeSeatFor_88 : decode cX0_freeSeatFor 88 = .ok (.iload_n 3, 1) := by decide +kernel
theorem dX0_freeSeatFor_89 : decode cX0_freeSeatFor 89 = .ok (.ireturn, 1) := by decide +kernel
theorem dX0_daredSeatFor_0 : decode cX0_daredSeatFor 0 = .ok (.iconst 0, 1) := by decide +kernel
theorem dX0_daredSeatFor_1 : decode cX0_daredSeatFor 1 = .ok (.istore_n 3, 1) := by decide +kernel
theorem dX0_daredSeatFor_2 : decode cX0_daredSeatFor 2 = .ok (.iload_n 3, 1) := by decide +kernel
theorem dX0_daredSeatFor_3 : decode cX0_daredSeatFor 3 = .ok (.aload_n 0, 1) := by decide +kernel
theorem dX0_daredSeatFor_4 : decode cX0_daredSeatFor 4 = .ok (.getfield 59, 3) := by decide +kernel
theorem dX0_daredSeatFor_7 : decode cX0_daredSeatFor 7 = .ok (.if_icmp .ge 59, 3) := by decide +kernel
theorem dX0_daredSeatFor_10 : decode cX0_daredSeatFor 10 = .ok (.aload_n 0, 1) := by decide +kernel
theorem dX0_daredSeatFor_11 : decode cX0_daredSeatFor 11 = .ok (.getfield 30, 3) := by decide +kernel
theorem dX0_daredSeatFor_14 : decode cX0_daredSeatFor 14 = .ok (.iload_n 3, 1) := by decide +kernel
theorem dX0_daredSeatFor_15 : decode cX0_daredSeatFor 15 = .ok (.iaload, 1) := by decide +kernel
theorem dX0_daredSeatFor_16 : decode cX0_daredSeatFor 16 = .ok (.istore 4, 2) := by decide +kernel
theorem dX0_daredSeatFor_18 : decode cX0_daredSeatFor 18 = .ok (.iload 4, 2) := by decide +kernel
theorem dX0_daredSeatFor_20 : decode cX0_daredSeatFor 20 = .ok (.iconst (-1), 1) := by decide +kernel
theorem dX0_daredSeatFor_21 : decode cX0_daredSeatFor 21 = .ok (.if_icmp .eq 39, 3) := by decide +kernel
theorem dX0_daredSeatFor_24 : decode cX0_daredSeatFor 24 = .ok (.aload_n 0, 1) := by decide +kernel
theorem dX0_daredSeatFor_25 : decode cX0_daredSeatFor 25 = .ok (.getfield 36, 3) := by decide +kernel
theorem dX0_daredSeatFor_28 : decode cX0_daredSeatFor 28 = .ok (.iload 4, 2) := by decide +kernel
theorem dX0_daredSeatFor_30 : decode cX0_daredSeatFor 30 = .ok (.iconst 5, 1) := by decide +kernel
theorem dX0_daredSeatFor_31 : decode cX0_daredSeatFor 31 = .ok (.invokevirtual 78, 3) := by decide +kernel
theorem dX0_daredSeatFor_34 : decode cX0_daredSeatFor 34 = .ok (.aload_n 0, 1) := by decide +kernel
theorem dX0_daredSeatFor_35 : decode cX0_daredSeatFor 35 = .ok (.getfield 36, 3) := by decide +kernel
theorem dX0_daredSeatFor_38 : decode cX0_daredSeatFor 38 = .ok (.iload_n 1, 1) := by decide +kernel
theorem dX0_daredSeatFor_39 : decode cX0_daredSeatFor 39 = .ok (.bipush 6, 2) := by decide +kernel
theorem dX0_daredSeatFor_41 : decode cX0_daredSeatFor 41 = .ok (.invokevirtual 78, 3) := by decide +kernel
theorem dX0_daredSeatFor_44 : decode cX0_daredSeatFor 44 = .ok (.aload_n 0, 1) := by decide +kernel
theorem dX0_daredSeatFor_45 : decode cX0_daredSeatFor 45 = .ok (.iload 4, 2) := by decide +kernel
theorem dX0_daredSeatFor_47 : decode cX0_daredSeatFor 47 = .ok (.iload_n 2, 1) := by decide +kernel
theorem dX0_daredSeatFor_48 : decode cX0_daredSeatFor 48 = .ok (.invokevirtual 141, 3) := by decide +kernel
theorem dX0_daredSeatFor_51 : decode cX0_daredSeatFor 51 = .ok (.bipush 10, 2) := by decide +kernel
theorem dX0_daredSeatFor_53 : decode cX0_daredSeatFor 53 = .ok (.idiv, 1) := by decide +kernel
theorem dX0_daredSeatFor_54 : decode cX0_daredSeatFor 54 = .ok (.iadd, 1) := by decide +kernel
theorem dX0_daredSeatFor_55 : decode cX0_daredSeatFor 55 = .ok (.if_icmp .gt 5, 3) := by decide +kernel
theorem dX0_daredSeatFor_58 : decode cX0_daredSeatFor 58 = .ok (.iload_n 3, 1) := by decide +kernel
theorem dX0_daredSeatFor_59 : decode cX0_daredSeatFor 59 = .ok (.ireturn, 1) := by decide +kernel
theorem dX0_daredSeatFor_60 : decode cX0_daredSeatFor 60 = .ok (.iinc 3 1, 3) := by decide +kernel
theorem dX0_daredSeatFor_63 : decode cX0_daredSeatFor 63 = .ok (.goto (-61), 3) := by decide +kernel
theorem dX0_daredSeatFor_66 : decode cX0_daredSeatFor 66 = .ok (.iconst (-1), 1) := by decide +kernel
theorem dX0_daredSeatFor_67 : decode cX0_daredSeatFor 67 = .ok (.ireturn, 1) := by decide +kernel
theorem dX0_sitDown_0 : decode cX0_sitDown 0 = .ok (.iload_n 2, 1) := by decide +kernel
theorem dX0_sitDown_1 : decode cX0_sitDown 1 = .ok (.ifCond .lt 12, 3) := by decide +kernel
theorem dX0_sitDown_4 : decode cX0_sitDown 4 = .ok (.iload_n 2, 1) := by decide +kernel
theorem dX0_sitDown_5 : decode cX0_sitDown 5 = .ok (.aload_n 0, 1) := by decide +kernel
theorem dX0_sitDown_6 : decode cX0_sitDown 6 = .ok (.getfield 27, 3) := by decide +kernel
theorem dX0_sitDown_9 : decode cX0_sitDown 9 = .ok (.arraylength, 1) := by decide +kernel
theorem dX0_sitDown_10 : decode cX0_sitDown 10 = .ok (.if_icmp .lt 4, 3) := by decide +kernel
theorem dX0_sitDown_13 : decode cX0_sitDown 13 = .ok (.return_, 1) := by decide +kernel
theorem dX0_sitDown_14 : decode cX0_sitDown 14 = .ok (.aload_n 0, 1) := by decide +kernel
theorem dX0_sitDown_15 : decode cX0_sitDown 15 = .ok (.getfield 27, 3) := by decide +kernel
theorem dX0_sitDown_18 : decode cX0_sitDown 18 = .ok (.iload_n 2, 1) := by decide +kernel
theorem dX0_sitDown_19 : decode cX0_sitDown 19 = .ok (.iload_n 1, 1) := by decide +kernel
theorem dX0_sitDown_20 : decode cX0_sitDown 20 = .ok (.iastore, 1) := by decide +kernel
theorem dX0_sitDown_21 : decode cX0_sitDown 21 = .ok (.aload_n 0, 1) := by decide +kernel
theorem dX0_sitDown_22 : decode cX0_sitDown 22 = .ok (.getfield 30, 3) := by decide +kernel
theorem dX0_sitDown_25 : decode cX0_sitDown 25 = .ok (.iload_n 2, 1) := by decide +kernel
theorem dX0_sitDown_26 : decode cX0_sitDown 26 = .ok (.iconst (-1), 1) := by decide +kernel
theorem dX0_sitDown_27 : decode cX0_sitDown 27 = .ok (.iastore, 1) := by decide +kernel
theorem dX0_sitDown_28 : decode cX0_sitDown 28 = .ok (.aload_n 0, 1) := by decide +kernel
theorem dX0_sitDown_29 : decode cX0_sitDown 29 = .ok (.getfield 15, 3) := by decide +kernel
theorem dX0_sitDown_32 : decode cX0_sitDown 32 = .ok (.iload_n 1, 1) := by decide +kernel
theorem dX0_sitDown_33 : decode cX0_sitDown 33 = .ok (.iload_n 2, 1) := by decide +kernel
theorem dX0_sitDown_34 : decode cX0_sitDown 34 = .ok (.iastore, 1) := by decide +kernel
theorem dX0_sitDown_35 : decode cX0_sitDown 35 = .ok (.aload_n 0, 1) := by decide +kernel
theorem dX0_sitDown_36 : decode cX0_sitDown 36 = .ok (.getfield 9, 3) := by decide +kernel
theorem dX0_sitDown_39 : decode cX0_sitDown 39 = .ok (.iload_n 1, 1) := by decide +kernel
theorem dX0_sitDown_40 : decode cX0_sitDown 40 = .ok (.iconst 2, 1) := by decide +kernel
theorem dX0_sitDown_41 : decode cX0_sitDown 41 = .ok (.iastore, 1) := by decide +kernel
theorem dX0_sitDown_42 : decode cX0_sitDown 42 = .ok (.return_, 1) := by decide +kernel
theorem dX0_sitOn_0 : decode cX0_sitOn 0 = .ok (.iconst 0, 1) := by decide +kernel
theorem dX0_sitOn_1 : decode cX0_sitOn 1 = .ok (.istore_n 2, 1) := by decide +kernel
theorem dX0_sitOn_2 : decode cX0_sitOn 2 = .ok (.iload_n 2, 1) := by decide +kernel
theorem dX0_sitOn_3 : decode cX0_sitOn 3 = .ok (.aload_n 0, 1) := by decide +kernel
theorem dX0_sitOn_4 : decode cX0_sitOn 4 = .ok (.getfield 52, 3) := by decide +kernel
theorem dX0_sitOn_7 : decode cX0_sitOn 7 = .ok (.if_icmp .ge 159, 3) := by decide +kernel
theorem dX0_sitOn_10 : decode cX0_sitOn 10 = .ok (.aload_n 0, 1) := by decide +kernel
theorem dX0_sitOn_11 : decode cX0_sitOn 11 = .ok (.getfield 15, 3) := by decide +kernel
theorem dX0_sitOn_14 : decode cX0_sitOn 14 = .ok (.iload_n 2, 1) := by decide +kernel
theorem dX0_sitOn_15 : decode cX0_sitOn 15 = .ok (.iaload, 1) := by decide +kernel
theorem dX0_sitOn_16 : decode cX0_sitOn 16 = .ok (.istore_n 3, 1) := by decide +kernel
theorem dX0_sitOn_17 : decode cX0_sitOn 17 = .ok (.aload_n 0, 1) := by decide +kernel
theorem dX0_sitOn_18 : decode cX0_sitOn 18 = .ok (.getfield 9, 3) := by decide +kernel
theorem dX0_sitOn_21 : decode cX0_sitOn 21 = .ok (.iload_n 2, 1) := by decide +kernel
theorem dX0_sitOn_22 : decode cX0_sitOn 22 = .ok (.iaload, 1) := by decide +kernel
theorem dX0_sitOn_23 : decode cX0_sitOn 23 = .ok (.iconst 2, 1) := by decide +kernel
theorem dX0_sitOn_24 : decode cX0_sitOn 24 = .ok (.if_icmp .ne 136, 3) := by decide +kernel
theorem dX0_sitOn_27 : decode cX0_sitOn 27 = .ok (.iload_n 3, 1) := by decide +kernel
theorem dX0_sitOn_28 : decode cX0_sitOn 28 = .ok (.ifCond .lt 132, 3) := by decide +kernel
theorem dX0_sitOn_31 : decode cX0_sitOn 31 = .ok (.iload_n 3, 1) := by decide +kernel
theorem dX0_sitOn_32 : decode cX0_sitOn 32 = .ok (.aload_n 0, 1) := by decide +kernel
theorem dX0_sitOn_33 : decode cX0_sitOn 33 = .ok (.getfield 27, 3) := by decide +kernel
theorem dX0_sitOn_36 : decode cX0_sitOn 36 = .ok (.arraylength, 1) := by decide +kernel
theorem dX0_sitOn_37 : decode cX0_sitOn 37 = .ok (.if_icmp .lt 6, 3) := by decide +kernel
theorem dX0_sitOn_40 : decode cX0_sitOn 40 = .ok (.goto 120, 3) := by decide +kernel
theorem dX0_sitOn_43 : decode cX0_sitOn 43 = .ok (.aload_n 0, 1) := by decide +kernel
theorem dX0_sitOn_44 : decode cX0_sitOn 44 = .ok (.getfield 21, 3) := by decide +kernel
theorem dX0_sitOn_47 : decode cX0_sitOn 47 = .ok (.iload_n 2, 1) := by decide +kernel
theorem dX0_sitOn_48 : decode cX0_sitOn 48 = .ok (.dup2, 1) := by decide +kernel
theorem dX0_sitOn_49 : decode cX0_sitOn 49 = .ok (.iaload, 1) := by decide +kernel
theorem dX0_sitOn_50 : decode cX0_sitOn 50 = .ok (.iconst 1, 1) := by decide +kernel
theorem dX0_sitOn_51 : decode cX0_sitOn 51 = .ok (.iadd, 1) := by decide +kernel
theorem dX0_sitOn_52 : decode cX0_sitOn 52 = .ok (.iastore, 1) := by decide +kernel
theorem dX0_sitOn_53 : decode cX0_sitOn 53 = .ok (.aload_n 0, 1) := by decide +kernel
theorem dX0_sitOn_54 : decode cX0_sitOn 54 = .ok (.getfield 21, 3) := by decide +kernel
theorem dX0_sitOn_57 : decode cX0_sitOn 57 = .ok (.iload_n 2, 1) := by decide +kernel
theorem dX0_sitOn_58 : decode cX0_sitOn 58 = .ok (.iaload, 1) := by decide +kernel
theorem dX0_sitOn_59 : decode cX0_sitOn 59 = .ok (.aload_n 0, 1) := by decide +kernel
theorem dX0_sitOn_60 : decode cX0_sitOn 60 = .ok (.getfield 36, 3) := by decide +kernel
theorem dX0_sitOn_63 : decode cX0_sitOn 63 = .ok (.iload_n 2, 1) := by decide +kernel
theorem dX0_sitOn_64 : decode cX0_sitOn 64 = .ok (.iconst 1, 1) := by decide +kernel
theorem dX0_sitOn_65 : decode cX0_sitOn 65 = .ok (.invokevirtual 78, 3) := by decide +kernel
theorem dX0_sitOn_68 : decode cX0_sitOn 68 = .ok (.if_icmp .lt 30, 3) := by decide +kernel
theorem dX0_sitOn_71 : decode cX0_sitOn 71 = .ok (.aload_n 0, 1) := by decide +kernel
theorem dX0_sitOn_72 : decode cX0_sitOn 72 = .ok (.getfield 27, 3) := by decide +kernel
theorem dX0_sitOn_75 : decode cX0_sitOn 75 = .ok (.iload_n 3, 1) := by decide +kernel
theorem dX0_sitOn_76 : decode cX0_sitOn 76 = .ok (.iconst (-1), 1) := by decide +kernel
theorem dX0_sitOn_77 : decode cX0_sitOn 77 = .ok (.iastore, 1) := by decide +kernel
theorem dX0_sitOn_78 : decode cX0_sitOn 78 = .ok (.aload_n 0, 1) := by decide +kernel
theorem dX0_sitOn_79 : decode cX0_sitOn 79 = .ok (.getfield 9, 3) := by decide +kernel
theorem dX0_sitOn_82 : decode cX0_sitOn 82 = .ok (.iload_n 2, 1) := by decide +kernel
theorem dX0_sitOn_83 : decode cX0_sitOn 83 = .ok (.iconst 4, 1) := by decide +kernel
theorem dX0_sitOn_84 : decode cX0_sitOn 84 = .ok (.iastore, 1) := by decide +kernel
theorem dX0_sitOn_85 : decode cX0_sitOn 85 = .ok (.aload_n 0, 1) := by decide +kernel
theorem dX0_sitOn_86 : decode cX0_sitOn 86 = .ok (.dup, 1) := by decide +kernel
theorem dX0_sitOn_87 : decode cX0_sitOn 87 = .ok (.getfield 90, 3) := by decide +kernel
theorem dX0_sitOn_90 : decode cX0_sitOn 90 = .ok (.iconst 1, 1) := by decide +kernel
theorem dX0_sitOn_91 : decode cX0_sitOn 91 = .ok (.isub, 1) := by decide +kernel
theorem dX0_sitOn_92 : decode cX0_sitOn 92 = .ok (.putfield 90, 3) := by decide +kernel
theorem dX0_sitOn_95 : decode cX0_sitOn 95 = .ok (.goto 65, 3) := by decide +kernel
theorem dX0_sitOn_98 : decode cX0_sitOn 98 = .ok (.aload_n 0, 1) := by decide +kernel
theorem dX0_sitOn_99 : decode cX0_sitOn 99 = .ok (.getfield 21, 3) := by decide +kernel
theorem dX0_sitOn_102 : decode cX0_sitOn 102 = .ok (.iload_n 2, 1) := by decide +kernel
theorem dX0_sitOn_103 : decode cX0_sitOn 103 = .ok (.iaload, 1) := by decide +kernel
theorem dX0_sitOn_104 : decode cX0_sitOn 104 = .ok (.aload_n 0, 1) := by decide +kernel
theorem dX0_sitOn_105 : decode cX0_sitOn 105 = .ok (.getfield 36, 3) := by decide +kernel
theorem dX0_sitOn_108 : decode cX0_sitOn 108 = .ok (.iload_n 2, 1) := by decide +kernel
theorem dX0_sitOn_109 : decode cX0_sitOn 109 = .ok (.iconst 2, 1) := by decide +kernel
theorem dX0_sitOn_110 : decode cX0_sitOn 110 = .ok (.invokevirtual 78, 3) := by decide +kernel
theorem dX0_sitOn_113 : decode cX0_sitOn 113 = .ok (.if_icmp .ne 47, 3) := by decide +kernel
theorem dX0_sitOn_116 : decode cX0_sitOn 116 = .ok (.aload_n 0, 1) := by decide +kernel
theorem dX0_sitOn_117 : decode cX0_sitOn 117 = .ok (.getfield 27, 3) := by decide +kernel
theorem dX0_sitOn_120 : decode cX0_sitOn 120 = .ok (.iload_n 3, 1) := by decide +kernel
theorem dX0_sitOn_121 : decode cX0_sitOn 121 = .ok (.iconst (-1), 1) := by decide +kernel
theorem dX0_sitOn_122 : decode cX0_sitOn 122 = .ok (.iastore, 1) := by decide +kernel
theorem dX0_sitOn_123 : decode cX0_sitOn 123 = .ok (.aload_n 0, 1) := by decide +kernel
theorem dX0_sitOn_124 : decode cX0_sitOn 124 = .ok (.getfield 30, 3) := by decide +kernel
theorem dX0_sitOn_127 : decode cX0_sitOn 127 = .ok (.iload_n 3, 1) := by decide +kernel
theorem dX0_sitOn_128 : decode cX0_sitOn 128 = .ok (.aload_n 0, 1) := by decide +kernel
theorem dX0_sitOn_129 : decode cX0_sitOn 129 = .ok (.getfield 65, 3) := by decide +kernel
theorem dX0_sitOn_132 : decode cX0_sitOn 132 = .ok (.iload_n 2, 1) := by decide +kernel
theorem dX0_sitOn_133 : decode cX0_sitOn 133 = .ok (.ishr, 1) := by decide +kernel
theorem dX0_sitOn_134 : decode cX0_sitOn 134 = .ok (.iconst 1, 1) := by decide +kernel
theorem dX0_sitOn_135 : decode cX0_sitOn 135 = .ok (.iand, 1) := by decide +kernel
theorem dX0_sitOn_136 : decode cX0_sitOn 136 = .ok (.iconst 1, 1) := by decide +kernel
theorem dX0_sitOn_137 : decode cX0_sitOn 137 = .ok (.if_icmp .ne 7, 3) := by decide +kernel
theorem dX0_sitOn_140 : decode cX0_sitOn 140 = .ok (.iload_n 2, 1) := by decide +kernel
theorem dX0_sitOn_141 : decode cX0_sitOn 141 = .ok (.goto 4, 3) := by decide +kernel
theorem dX0_sitOn_144 : decode cX0_sitOn 144 = .ok (.iconst (-1), 1) := by decide +kernel
theorem dX0_sitOn_145 : decode cX0_sitOn 145 = .ok (.iastore, 1) := by decide +kernel
theorem dX0_sitOn_146 : decode cX0_sitOn 146 = .ok (.aload_n 0, 1) := by decide +kernel
theorem dX0_sitOn_147 : decode cX0_sitOn 147 = .ok (.getfield 9, 3) := by decide +kernel
theorem dX0_sitOn_150 : decode cX0_sitOn 150 = .ok (.iload_n 2, 1) := by decide +kernel
theorem dX0_sitOn_151 : decode cX0_sitOn 151 = .ok (.iconst 3, 1) := by decide +kernel
theorem dX0_sitOn_152 : decode cX0_sitOn 152 = .ok (.iastore, 1) := by decide +kernel
theorem dX0_sitOn_153 : decode cX0_sitOn 153 = .ok (.aload_n 0, 1) := by decide +kernel
theorem dX0_sitOn_154 : decode cX0_sitOn 154 = .ok (.getfield 18, 3) := by decide +kernel
theorem dX0_sitOn_157 : decode cX0_sitOn 157 = .ok (.iload_n 2, 1) := by decide +kernel
theorem dX0_sitOn_158 : decode cX0_sitOn 158 = .ok (.iload_n 1, 1) := by decide +kernel
theorem dX0_sitOn_159 : decode cX0_sitOn 159 = .ok (.iastore, 1) := by decide +kernel
theorem dX0_sitOn_160 : decode cX0_sitOn 160 = .ok (.iinc 2 1, 3) := by decide +kernel
theorem dX0_sitOn_163 : decode cX0_sitOn 163 = .ok (.goto (-161), 3) := by decide +kernel
theorem dX0_sitOn_166 : decode cX0_sitOn 166 = .ok (.return_, 1) := by decide +kernel
theorem dX0_countSeats_0 : decode cX0_countSeats 0 = .ok (.iconst 0, 1) := by decide +kernel
theorem dX0_countSeats_1 : decode cX0_countSeats 1 = .ok (.istore_n 2, 1) := by decide +kernel
theorem dX0_countSeats_2 : decode cX0_countSeats 2 = .ok (.iconst 0, 1) := by decide +kernel
theorem dX0_countSeats_3 : decode cX0_countSeats 3 = .ok (.istore_n 3, 1) := by decide +kernel
theorem dX0_countSeats_4 : decode cX0_countSeats 4 = .ok (.iload_n 3, 1) := by decide +kernel
theorem dX0_countSeats_5 : decode cX0_countSeats 5 = .ok (.aload_n 0, 1) := by decide +kernel
theorem dX0_countSeats_6 : decode cX0_countSeats 6 = .ok (.getfield 59, 3) := by decide +kernel
theorem dX0_countSeats_9 : decode cX0_countSeats 9 = .ok (.if_icmp .ge 51, 3) := by decide +kernel
theorem dX0_countSeats_12 : decode cX0_countSeats 12 = .ok (.iload_n 2, 1) := by decide +kernel
theorem dX0_countSeats_13 : decode cX0_countSeats 13 = .ok (.aload_n 0, 1) := by decide +kernel
theorem dX0_countSeats_14 : decode cX0_countSeats 14 = .ok (.getfield 27, 3) := by decide +kernel
theorem dX0_countSeats_17 : decode cX0_countSeats 17 = .ok (.iload_n 3, 1) := by decide +kernel
theorem dX0_countSeats_18 : decode cX0_countSeats 18 = .ok (.iaload, 1) := by decide +kernel
theorem dX0_countSeats_19 : decode cX0_countSeats 19 = .ok (.iconst (-1), 1) := by decide +kernel
theorem dX0_countSeats_20 : decode cX0_countSeats 20 = .ok (.if_icmp .eq 7, 3) := by decide +kernel
theorem dX0_countSeats_23 : decode cX0_countSeats 23 = .ok (.iconst 1, 1) := by decide +kernel
theorem dX0_countSeats_24 : decode cX0_countSeats 24 = .ok (.goto 4, 3) := by decide +kernel
theorem dX0_countSeats_27 : decode cX0_countSeats 27 = .ok (.iconst 0, 1) := by decide +kernel
theorem dX0_countSeats_28 : decode cX0_countSeats 28 = .ok (.iadd, 1) := by decide +kernel
theorem dX0_countSeats_29 : decode cX0_countSeats 29 = .ok (.istore_n 2, 1) := by decide +kernel
theorem dX0_countSeats_30 : decode cX0_countSeats 30 = .ok (.aload_n 0, 1) := by decide +kernel
theorem dX0_countSeats_31 : decode cX0_countSeats 31 = .ok (.dup, 1) := by decide +kernel
theorem dX0_countSeats_32 : decode cX0_countSeats 32 = .ok (.getfield 93, 3) := by decide +kernel
theorem dX0_countSeats_35 : decode cX0_countSeats 35 = .ok (.aload_n 0, 1) := by decide +kernel
theorem dX0_countSeats_36 : decode cX0_countSeats 36 = .ok (.getfield 30, 3) := by decide +kernel
theorem dX0_countSeats_39 : decode cX0_countSeats 39 = .ok (.iload_n 3, 1) := by decide +kernel
theorem dX0_countSeats_40 : decode cX0_countSeats 40 = .ok (.iaload, 1) := by decide +kernel
theorem dX0_countSeats_41 : decode cX0_countSeats 41 = .ok (.iconst (-1), 1) := by decide +kernel
theorem dX0_countSeats_42 : decode cX0_countSeats 42 = .ok (.if_icmp .eq 7, 3) := by decide +kernel
theorem dX0_countSeats_45 : decode cX0_countSeats 45 = .ok (.iconst 1, 1) := by decide +kernel
theorem dX0_countSeats_46 : decode cX0_countSeats 46 = .ok (.goto 4, 3) := by decide +kernel
theorem dX0_countSeats_49 : decode cX0_countSeats 49 = .ok (.iconst 0, 1) := by decide +kernel
theorem dX0_countSeats_50 : decode cX0_countSeats 50 = .ok (.iadd, 1) := by decide +kernel
theorem dX0_countSeats_51 : decode cX0_countSeats 51 = .ok (.putfield 93, 3) := by decide +kernel
theorem dX0_countSeats_54 : decode cX0_countSeats 54 = .ok (.iinc 3 1, 3) := by decide +kernel
theorem dX0_countSeats_57 : decode cX0_countSeats 57 = .ok (.goto (-53), 3) := by decide +kernel
theorem dX0_countSeats_60 : decode cX0_countSeats 60 = .ok (.aload_n 0, 1) := by decide +kernel
theorem dX0_countSeats_61 : decode cX0_countSeats 61 = .ok (.getfield 33, 3) := by decide +kernel
theorem dX0_countSeats_64 : decode cX0_countSeats 64 = .ok (.iload_n 1, 1) := by decide +kernel
theorem dX0_countSeats_65 : decode cX0_countSeats 65 = .ok (.iload_n 2, 1) := by decide +kernel
theorem dX0_countSeats_66 : decode cX0_countSeats 66 = .ok (.iastore, 1) := by decide +kernel
theorem dX0_countSeats_67 : decode cX0_countSeats 67 = .ok (.return_, 1) := by decide +kernel
theorem dX0_offFor_0 : decode cX0_offFor 0 = .ok (.iload_n 1, 1) := by decide +kernel
theorem dX0_offFor_1 : decode cX0_offFor 1 = .ok (.ifCond .lt 23, 3) := by decide +kernel
theorem dX0_offFor_4 : decode cX0_offFor 4 = .ok (.iload_n 1, 1) := by decide +kernel
theorem dX0_offFor_5 : decode cX0_offFor 5 = .ok (.aload_n 0, 1) := by decide +kernel
theorem dX0_offFor_6 : decode cX0_offFor 6 = .ok (.getfield 18, 3) := by decide +kernel
theorem dX0_offFor_9 : decode cX0_offFor 9 = .ok (.arraylength, 1) := by decide +kernel
theorem dX0_offFor_10 : decode cX0_offFor 10 = .ok (.if_icmp .ge 14, 3) := by decide +kernel
theorem dX0_offFor_13 : decode cX0_offFor 13 = .ok (.iload_n 2, 1) := by decide +kernel
theorem dX0_offFor_14 : decode cX0_offFor 14 = .ok (.aload_n 0, 1) := by decide +kernel
theorem dX0_offFor_15 : decode cX0_offFor 15 = .ok (.getfield 18, 3) := by decide +kernel
theorem dX0_offFor_18 : decode cX0_offFor 18 = .ok (.iload_n 1, 1) := by decide +kernel
theorem dX0_offFor_19 : decode cX0_offFor 19 = .ok (.iaload, 1) := by decide +kernel
theorem dX0_offFor_20 : decode cX0_offFor 20 = .ok (.isub, 1) := by decide +kernel
theorem dX0_offFor_21 : decode cX0_offFor 21 = .ok (.goto 4, 3) := by decide +kernel
theorem dX0_offFor_24 : decode cX0_offFor 24 = .ok (.iconst 0, 1) := by decide +kernel
theorem dX0_offFor_25 : decode cX0_offFor 25 = .ok (.ireturn, 1) := by decide +kernel
theorem dX0_sitterOf_0 : decode cX0_sitterOf 0 = .ok (.iload_n 1, 1) := by decide +kernel
theorem dX0_sitterOf_1 : decode cX0_sitterOf 1 = .ok (.ifCond .lt 21, 3) := by decide +kernel
theorem dX0_sitterOf_4 : decode cX0_sitterOf 4 = .ok (.iload_n 1, 1) := by decide +kernel
theorem dX0_sitterOf_5 : decode cX0_sitterOf 5 = .ok (.aload_n 0, 1) := by decide +kernel
theorem dX0_sitterOf_6 : decode cX0_sitterOf 6 = .ok (.getfield 27, 3) := by decide +kernel
theorem dX0_sitterOf_9 : decode cX0_sitterOf 9 = .ok (.arraylength, 1) := by decide +kernel
theorem dX0_sitterOf_10 : decode cX0_sitterOf 10 = .ok (.if_icmp .ge 12, 3) := by decide +kernel
theorem dX0_sitterOf_13 : decode cX0_sitterOf 13 = .ok (.aload_n 0, 1) := by decide +kernel
theorem dX0_sitterOf_14 : decode cX0_sitterOf 14 = .ok (.getfield 27, 3) := by decide +kernel
theorem dX0_sitterOf_17 : decode cX0_sitterOf 17 = .ok (.iload_n 1, 1) := by decide +kernel
theorem dX0_sitterOf_18 : decode cX0_sitterOf 18 = .ok (.iaload, 1) := by decide +kernel
theorem dX0_sitterOf_19 : decode cX0_sitterOf 19 = .ok (.goto 4, 3) := by decide +kernel
theorem dX0_sitterOf_22 : decode cX0_sitterOf 22 = .ok (.iconst (-1), 1) := by decide +kernel
theorem dX0_sitterOf_23 : decode cX0_sitterOf 23 = .ok (.ireturn, 1) := by decide +kernel
theorem dX0_holderOf_0 : decode cX0_holderOf 0 = .ok (.iload_n 1, 1) := by decide +kernel
theorem dX0_holderOf_1 : decode cX0_holderOf 1 = .ok (.ifCond .lt 21, 3) := by decide +kernel
theorem dX0_holderOf_4 : decode cX0_holderOf 4 = .ok (.iload_n 1, 1) := by decide +kernel
theorem dX0_holderOf_5 : decode cX0_holderOf 5 = .ok (.aload_n 0, 1) := by decide +kernel
theorem dX0_holderOf_6 : decode cX0_holderOf 6 = .ok (.getfield 30, 3) := by decide +kernel
theorem dX0_holderOf_9 : decode cX0_holderOf 9 = .ok (.arraylength, 1) := by decide +kernel
theorem dX0_holderOf_10 : decode cX0_holderOf 10 = .ok (.if_icmp .ge 12, 3) := by decide +kernel
theorem dX0_holderOf_13 : decode cX0_holderOf 13 = .ok (.aload_n 0, 1) := by decide +kernel
theorem dX0_holderOf_14 : decode cX0_holderOf 14 = .ok (.getfield 30, 3) := by decide +kernel
theorem dX0_holderOf_17 : decode cX0_holderOf 17 = .ok (.iload_n 1, 1) := by decide +kernel
theorem dX0_holderOf_18 : decode cX0_holderOf 18 = .ok (.iaload, 1) := by decide +kernel
theorem dX0_holderOf_19 : decode cX0_holderOf 19 = .ok (.goto 4, 3) := by decide +kernel
theorem dX0_holderOf_22 : decode cX0_holderOf 22 = .ok (.iconst (-1), 1) := by decide +kernel
theorem dX0_holderOf_23 : decode cX0_holderOf 23 = .ok (.ireturn, 1) := by decide +kernel
theorem dX0_stateOf_0 : decode cX0_stateOf 0 = .ok (.iload_n 1, 1) := by decide +kernel
theorem dX0_stateOf_1 : decode cX0_stateOf 1 = .ok (.ifCond .lt 21, 3) := by decide +kernel
theorem dX0_stateOf_4 : decode cX0_stateOf 4 = .ok (.iload_n 1, 1) := by decide +kernel
theorem dX0_stateOf_5 : decode cX0_stateOf 5 = .ok (.aload_n 0, 1) := by decide +kernel
theorem dX0_stateOf_6 : decode cX0_stateOf 6 = .ok (.getfield 9, 3) := by decide +kernel
theorem dX0_stateOf_9 : decode cX0_stateOf 9 = .ok (.arraylength, 1) := by decide +kernel
theorem dX0_stateOf_10 : decode cX0_stateOf 10 = .ok (.if_icmp .ge 12, 3) := by decide +kernel
theorem dX0_stateOf_13 : decode cX0_stateOf 13 = .ok (.aload_n 0, 1) := by decide +kernel
theorem dX0_stateOf_14 : decode cX0_stateOf 14 = .ok (.getfield 9, 3) := by decide +kernel
theorem dX0_stateOf_17 : decode cX0_stateOf 17 = .ok (.iload_n 1, 1) := by decide +kernel
theorem dX0_stateOf_18 : decode cX0_stateOf 18 = .ok (.iaload, 1) := by decide +kernel
theorem dX0_stateOf_19 : decode cX0_stateOf 19 = .ok (.goto 4, 3) := by decide +kernel
theorem dX0_stateOf_22 : decode cX0_stateOf 22 = .ok (.iconst 0, 1) := by decide +kernel
theorem dX0_stateOf_23 : decode cX0_stateOf 23 = .ok (.ireturn, 1) := by decide +kernel
theorem dX0_minutesOf_0 : decode cX0_minutesOf 0 = .ok (.iload_n 1, 1) := by decide +kernel
theorem dX0_minutesOf_1 : decode cX0_minutesOf 1 = .ok (.ifCond .lt 21, 3) := by decide +kernel
theorem dX0_minutesOf_4 : decode cX0_minutesOf 4 = .ok (.iload_n 1, 1) := by decide +kernel
theorem dX0_minutesOf_5 : decode cX0_minutesOf 5 = .ok (.aload_n 0, 1) := by decide +kernel
theorem dX0_minutesOf_6 : decode cX0_minutesOf 6 = .ok (.getfield 21, 3) := by decide +kernel
theorem dX0_minutesOf_9 : decode cX0_minutesOf 9 = .ok (.arraylength, 1) := by decide +kernel
theorem dX0_minutesOf_10 : decode cX0_minutesOf 10 = .ok (.if_icmp .ge 12, 3) := by decide +kernel
theorem dX0_minutesOf_13 : decode cX0_minutesOf 13 = .ok (.aload_n 0, 1) := by decide +kernel
theorem dX0_minutesOf_14 : decode cX0_minutesOf 14 = .ok (.getfield 21, 3) := by decide +kernel
theorem dX0_minutesOf_17 : decode cX0_minutesOf 17 = .ok (.iload_n 1, 1) := by decide +kernel
theorem dX0_minutesOf_18 : decode cX0_minutesOf 18 = .ok (.iaload, 1) := by decide +kernel
theorem dX0_minutesOf_19 : decode cX0_minutesOf 19 = .ok (.goto 4, 3) := by decide +kernel
theorem dX0_minutesOf_22 : decode cX0_minutesOf 22 = .ok (.iconst 0, 1) := by decide +kernel
theorem dX0_minutesOf_23 : decode cX0_minutesOf 23 = .ok (.ireturn, 1) := by decide +kernel
theorem dX0_used_0 : decode cX0_used 0 = .ok (.aload_n 0, 1) := by decide +kernel
theorem dX0_used_1 : decode cX0_used 1 = .ok (.iconst 1, 1) := by decide +kernel
theorem dX0_used_2 : decode cX0_used 2 = .ok (.invokevirtual 161, 3) := by decide +kernel
theorem dX0_used_5 : decode cX0_used 5 = .ok (.ireturn, 1) := by decide +kernel
theorem dX0_empty_0 : decode cX0_empty 0 = .ok (.aload_n 0, 1) := by decide +kernel
theorem dX0_empty_1 : decode cX0_empty 1 = .ok (.getfield 93, 3) := by decide +kernel
theorem dX0_empty_4 : decode cX0_empty 4 = .ok (.ireturn, 1) := by decide +kernel
theorem dX0_shutOut_0 : decode cX0_shutOut 0 = .ok (.aload_n 0, 1) := by decide +kernel
theorem dX0_shutOut_1 : decode cX0_shutOut 1 = .ok (.getfield 96, 3) := by decide +kernel
theorem dX0_shutOut_4 : decode cX0_shutOut 4 = .ok (.ireturn, 1) := by decide +kernel
theorem dX0_thrownOut_0 : decode cX0_thrownOut 0 = .ok (.aload_n 0, 1) := by decide +kernel
theorem dX0_thrownOut_1 : decode cX0_thrownOut 1 = .ok (.getfield 99, 3) := by decide +kernel
theorem dX0_thrownOut_4 : decode cX0_thrownOut 4 = .ok (.ireturn, 1) := by decide +kernel
theorem dX0_seenEvery_0 : decode cX0_seenEvery 0 = .ok (.iconst 0, 1) := by decide +kernel
theorem dX0_seenEvery_1 : decode cX0_seenEvery 1 = .ok (.istore_n 2, 1) := by decide +kernel
theorem dX0_seenEvery_2 : decode cX0_seenEvery 2 = .ok (.iconst 0, 1) := by decide +kernel
theorem dX0_seenEvery_3 : decode cX0_seenEvery 3 = .ok (.istore_n 3, 1) := by decide +kernel
theorem dX0_seenEvery_4 : decode cX0_seenEvery 4 = .ok (.iload_n 3, 1) := by decide +kernel
theorem dX0_seenEvery_5 : decode cX0_seenEvery 5 = .ok (.aload_n 0, 1) := by decide +kernel
theorem dX0_seenEvery_6 : decode cX0_seenEvery 6 = .ok (.getfield 87, 3) := by decide +kernel
theorem dX0_seenEvery_9 : decode cX0_seenEvery 9 = .ok (.if_icmp .ge 23, 3) := by decide +kernel
theorem dX0_seenEvery_12 : decode cX0_seenEvery 12 = .ok (.iload_n 1, 1) := by decide +kernel
theorem dX0_seenEvery_13 : decode cX0_seenEvery 13 = .ok (.ifCond .le 19, 3) := by decide +kernel
theorem dX0_seenEvery_16 : decode cX0_seenEvery 16 = .ok (.iload_n 2, 1) := by decide +kernel
theorem dX0_seenEvery_17 : decode cX0_seenEvery 17 = .ok (.aload_n 0, 1) := by decide +kernel
theorem dX0_seenEvery_18 : decode cX0_seenEvery 18 = .ok (.getfield 33, 3) := by decide +kernel
theorem dX0_seenEvery_21 : decode cX0_seenEvery 21 = .ok (.iload_n 3, 1) := by decide +kernel
theorem dX0_seenEvery_22 : decode cX0_seenEvery 22 = .ok (.iaload, 1) := by decide +kernel
theorem dX0_seenEvery_23 : decode cX0_seenEvery 23 = .ok (.iadd, 1) := by decide +kernel
theorem dX0_seenEvery_24 : decode cX0_seenEvery 24 = .ok (.istore_n 2, 1) := by decide +kernel
theorem dX0_seenEvery_25 : decode cX0_seenEvery 25 = .ok (.iload_n 3, 1) := by decide +kernel
theorem dX0_seenEvery_26 : decode cX0_seenEvery 26 = .ok (.iload_n 1, 1) := by decide +kernel
theorem dX0_seenEvery_27 : decode cX0_seenEvery 27 = .ok (.iadd, 1) := by decide +kernel
theorem dX0_seenEvery_28 : decode cX0_seenEvery 28 = .ok (.istore_n 3, 1) := by decide +kernel
theorem dX0_seenEvery_29 : decode cX0_seenEvery 29 = .ok (.goto (-25), 3) := by decide +kernel
theorem dX0_seenEvery_32 : decode cX0_seenEvery 32 = .ok (.iload_n 2, 1) := by decide +kernel
theorem dX0_seenEvery_33 : decode cX0_seenEvery 33 = .ok (.iload_n 1, 1) := by decide +kernel
theorem dX0_seenEvery_34 : decode cX0_seenEvery 34 = .ok (.imul, 1) := by decide +kernel
theorem dX0_seenEvery_35 : decode cX0_seenEvery 35 = .ok (.ireturn, 1) := by decide +kernel
theorem dX0_packedMinutes_0 : decode cX0_packedMinutes 0 = .ok (.lconst 0, 1) := by decide +kernel
theorem dX0_packedMinutes_1 : decode cX0_packedMinutes 1 = .ok (.lstore_n 1, 1) := by decide +kernel
theorem dX0_packedMinutes_2 : decode cX0_packedMinutes 2 = .ok (.bipush 7, 2) := by decide +kernel
theorem dX0_packedMinutes_4 : decode cX0_packedMinutes 4 = .ok (.istore_n 3, 1) := by decide +kernel
theorem dX0_packedMinutes_5 : decode cX0_packedMinutes 5 = .ok (.iload_n 3, 1) := by decide +kernel
theorem dX0_packedMinutes_6 : decode cX0_packedMinutes 6 = .ok (.ifCond .lt 22, 3) := by decide +kernel
theorem dX0_packedMinutes_9 : decode cX0_packedMinutes 9 = .ok (.lload_n 1, 1) := by decide +kernel
theorem dX0_packedMinutes_10 : decode cX0_packedMinutes 10 = .ok (.bipush 8, 2) := by decide +kernel
theorem dX0_packedMinutes_12 : decode cX0_packedMinutes 12 = .ok (.lshl, 1) := by decide +kernel
theorem dX0_packedMinutes_13 : decode cX0_packedMinutes 13 = .ok (.aload_n 0, 1) := by decide +kernel
theorem dX0_packedMinutes_14 : decode cX0_packedMinutes 14 = .ok (.getfield 21, 3) := by decide +kernel
theorem dX0_packedMinutes_17 : decode cX0_packedMinutes 17 = .ok (.iload_n 3, 1) := by decide +kernel
theorem dX0_packedMinutes_18 : decode cX0_packedMinutes 18 = .ok (.iaload, 1) := by decide +kernel
theorem dX0_packedMinutes_19 : decode cX0_packedMinutes 19 = .ok (.i2l, 1) := by decide +kernel
theorem dX0_packedMinutes_20 : decode cX0_packedMinutes 20 = .ok (.lor, 1) := by decide +kernel
theorem dX0_packedMinutes_21 : decode cX0_packedMinutes 21 = .ok (.lstore_n 1, 1) := by decide +kernel
theorem dX0_packedMinutes_22 : decode cX0_packedMinutes 22 = .ok (.iinc 3 (-1), 3) := by decide +kernel
theorem dX0_packedMinutes_25 : decode cX0_packedMinutes 25 = .ok (.goto (-20), 3) := by decide +kernel
theorem dX0_packedMinutes_28 : decode cX0_packedMinutes 28 = .ok (.lload_n 1, 1) := by decide +kernel
theorem dX0_packedMinutes_29 : decode cX0_packedMinutes 29 = .ok (.lreturn, 1) := by decide +kernel
end
section
theorem dX1_init_0 : decode cX1_init 0 = .ok (.aload_n 0, 1) := by decide +kernel
theorem dX1_init_1 : decode cX1_init 1 = .ok (.invokespecial 3, 3) := by decide +kernel
theorem dX1_init_4 : decode cX1_init 4 = .ok (.aload_n 0, 1) := by decide +kernel
theorem dX1_init_5 : decode cX1_init 5 = .ok (.aload_n 1, 1) := by decide +kernel
theorem dX1_init_6 : decode cX1_init 6 = .ok (.putfield 9, 3) := by decide +kernel
theorem dX1_init_9 : decode cX1_init 9 = .ok (.aload_n 0, 1) := by decide +kernel
theorem dX1_init_10 : decode cX1_init 10 = .ok (.sipush 256, 3) := by decide +kernel
theorem dX1_init_13 : decode cX1_init 13 = .ok (.newarray .long, 2) := by decide +kernel
theorem dX1_init_15 : decode cX1_init 15 = .ok (.putfield 15, 3) := by decide +kernel
theorem dX1_init_18 : decode cX1_init 18 = .ok (.aload_n 0, 1) := by decide +kernel
theorem dX1_init_19 : decode cX1_init 19 = .ok (.aload_n 2, 1) := by decide +kernel
theorem dX1_init_20 : decode cX1_init 20 = .ok (.putfield 19, 3) := by decide +kernel
theorem dX1_init_23 : decode cX1_init 23 = .ok (.aload_n 0, 1) := by decide +kernel
theorem dX1_init_24 : decode cX1_init 24 = .ok (.iconst (-1), 1) := by decide +kernel
theorem dX1_init_25 : decode cX1_init 25 = .ok (.putfield 23, 3) := by decide +kernel
theorem dX1_init_28 : decode cX1_init 28 = .ok (.aload_n 0, 1) := by decide +kernel
theorem dX1_init_29 : decode cX1_init 29 = .ok (.iconst 0, 1) := by decide +kernel
theorem dX1_init_30 : decode cX1_init 30 = .ok (.putfield 27, 3) := by decide +kernel
theorem dX1_init_33 : decode cX1_init 33 = .ok (.return_, 1) := by decide +kernel
theorem dX1_forget_0 : decode cX1_forget 0 = .ok (.aload_n 0, 1) := by decide +kernel
theorem dX1_forget_1 : decode cX1_forget 1 = .ok (.aload_n 1, 1) := by decide +kernel
theorem dX1_forget_2 : decode cX1_forget 2 = .ok (.putfield 19, 3) := by decide +kernel
theorem dX1_forget_5 : decode cX1_forget 5 = .ok (.aload_n 0, 1) := by decide +kernel
theorem dX1_forget_6 : decode cX1_forget 6 = .ok (.iconst (-1), 1) := by decide +kernel
theorem dX1_forget_7 : decode cX1_forget 7 = .ok (.putfield 23, 3) := by decide +kernel
theorem dX1_forget_10 : decode cX1_forget 10 = .ok (.return_, 1) := by decide +kernel
theorem dX1_playBy_0 : decode cX1_playBy 0 = .ok (.aload_n 0, 1) := by decide +kernel
theorem dX1_playBy_1 : decode cX1_playBy 1 = .ok (.getfield 23, 3) := by decide +kernel
theorem dX1_playBy_4 : decode cX1_playBy 4 = .ok (.iload_n 1, 1) := by decide +kernel
theorem dX1_playBy_5 : decode cX1_playBy 5 = .ok (.if_icmp .ne 4, 3) := by decide +kernel
theorem dX1_playBy_8 : decode cX1_playBy 8 = .ok (.return_, 1) := by decide +kernel
theorem dX1_playBy_9 : decode cX1_playBy 9 = .ok (.aload_n 0, 1) := by decide +kernel
theorem dX1_playBy_10 : decode cX1_playBy 10 = .ok (.iload_n 1, 1) := by decide +kernel
theorem dX1_playBy_11 : decode cX1_playBy 11 = .ok (.putfield 23, 3) := by decide +kernel
theorem dX1_playBy_14 : decode cX1_playBy 14 = .ok (.aload_n 0, 1) := by decide +kernel
theorem dX1_playBy_15 : decode cX1_playBy 15 = .ok (.getfield 15, 3) := by decide +kernel
theorem dX1_playBy_18 : decode cX1_playBy 18 = .ok (.ldc2_w 30, 3) := by decide +kernel
theorem dX1_playBy_21 : decode cX1_playBy 21 = .ok (.invokestatic 32, 3) := by decide +kernel
theorem dX1_playBy_24 : decode cX1_playBy 24 = .ok (.aload_n 0, 1) := by decide +kernel
theorem dX1_playBy_25 : decode cX1_playBy 25 = .ok (.iconst 0, 1) := by decide +kernel
theorem dX1_playBy_26 : decode cX1_playBy 26 = .ok (.putfield 27, 3) := by decide +kernel
theorem dX1_playBy_29 : decode cX1_playBy 29 = .ok (.iconst 0, 1) := by decide +kernel
theorem dX1_playBy_30 : decode cX1_playBy 30 = .ok (.istore_n 2, 1) := by decide +kernel
theorem dX1_playBy_31 : decode cX1_playBy 31 = .ok (.iload_n 2, 1) := by decide +kernel
theorem dX1_playBy_32 : decode cX1_playBy 32 = .ok (.aload_n 0, 1) := by decide +kernel
theorem dX1_playBy_33 : decode cX1_playBy 33 = .ok (.getfield 19, 3) := by decide +kernel
theorem dX1_playBy_36 : decode cX1_playBy 36 = .ok (.invokevirtual 38, 3) := by decide +kernel
theorem dX1_playBy_39 : decode cX1_playBy 39 = .ok (.if_icmp .ge 37, 3) := by decide +kernel
theorem dX1_playBy_42 : decode cX1_playBy 42 = .ok (.iload_n 1, 1) := by decide +kernel
theorem dX1_playBy_43 : decode cX1_playBy 43 = .ok (.iconst 1, 1) := by decide +kernel
theorem dX1_playBy_44 : decode cX1_playBy 44 = .ok (.if_icmp .eq 26, 3) := by decide +kernel
theorem dX1_playBy_47 : decode cX1_playBy 47 = .ok (.aload_n 0, 1) := by decide +kernel
theorem dX1_playBy_48 : decode cX1_playBy 48 = .ok (.getfield 19, 3) := by decide +kernel
theorem dX1_playBy_51 : decode cX1_playBy 51 = .ok (.iload_n 2, 1) := by decide +kernel
theorem dX1_playBy_52 : decode cX1_playBy 52 = .ok (.invokevirtual 44, 3) := by decide +kernel
theorem dX1_playBy_55 : decode cX1_playBy 55 = .ok (.ifCond .eq 15, 3) := by decide +kernel
theorem dX1_playBy_58 : decode cX1_playBy 58 = .ok (.aload_n 0, 1) := by decide +kernel
theorem dX1_playBy_59 : decode cX1_playBy 59 = .ok (.dup, 1) := by decide +kernel
theorem dX1_playBy_60 : decode cX1_playBy 60 = .ok (.getfield 27, 3) := by decide +kernel
theorem dX1_playBy_63 : decode cX1_playBy 63 = .ok (.iconst 1, 1) := by decide +kernel
theorem dX1_playBy_64 : decode cX1_playBy 64 = .ok (.iload_n 2, 1) := by decide +kernel
theorem dX1_playBy_65 : decode cX1_playBy 65 = .ok (.ishl, 1) := by decide +kernel
theorem dX1_playBy_66 : decode cX1_playBy 66 = .ok (.ior, 1) := by decide +kernel
theorem dX1_playBy_67 : decode cX1_playBy 67 = .ok (.putfield 27, 3) := by decide +kernel
theorem dX1_playBy_70 : decode cX1_playBy 70 = .ok (.iinc 2 1, 3) := by decide +kernel
theorem dX1_playBy_73 : decode cX1_playBy 73 = .ok (.goto (-42), 3) := by decide +kernel
theorem dX1_playBy_76 : decode cX1_playBy 76 = .ok (.return_, 1) := by decide +kernel
theorem dX1_isRest_0 : decode cX1_isRest 0 = .ok (.iconst 0, 1) := by decide +kernel
theorem dX1_isRest_1 : decode cX1_isRest 1 = .ok (.istore_n 2, 1) := by decide +kernel
theorem dX1_isRest_2 : decode cX1_isRest 2 = .ok (.iload_n 2, 1) := by decide +kernel
theorem dX1_isRest_3 : decode cX1_isRest 3 = .ok (.aload_n 0, 1) := by decide +kernel
theorem dX1_isRest_4 : decode cX1_isRest 4 = .ok (.getfield 19, 3) := by decide +kernel
theorem dX1_isRest_7 : decode cX1_isRest 7 = .ok (.invokevirtual 38, 3) := by decide +kernel
theorem dX1_isRest_10 : decode cX1_isRest 10 = .ok (.if_icmp .ge 30, 3) := by decide +kernel
theorem dX1_isRest_13 : decode cX1_isRest 13 = .ok (.aload_n 0, 1) := by decide +kernel
theorem dX1_isRest_14 : decode cX1_isRest 14 = .ok (.iload_n 1, 1) := by decide +kernel
theorem dX1_isRest_15 : decode cX1_isRest 15 = .ok (.iconst 1, 1) := by decide +kernel
theorem dX1_isRest_16 : decode cX1_isRest 16 = .ok (.iload_n 2, 1) := by decide +kernel
theorem dX1_isRest_17 : decode cX1_isRest 17 = .ok (.ishl, 1) := by decide +kernel
theorem dX1_isRest_18 : decode cX1_isRest 18 = .ok (.ixor, 1) := by decide +kernel
theorem dX1_isRest_19 : decode cX1_isRest 19 = .ok (.iload_n 2, 1) := by decide +kernel
theorem dX1_isRest_20 : decode cX1_isRest 20 = .ok (.invokevirtual 48, 3) := by decide +kernel
theorem dX1_isRest_23 : decode cX1_isRest 23 = .ok (.aload_n 0, 1) := by decide +kernel
theorem dX1_isRest_24 : decode cX1_isRest 24 = .ok (.iload_n 1, 1) := by decide +kernel
theorem dX1_isRest_25 : decode cX1_isRest 25 = .ok (.iload_n 2, 1) := by decide +kernel
theorem dX1_isRest_26 : decode cX1_isRest 26 = .ok (.invokevirtual 48, 3) := by decide +kernel
theorem dX1_isRest_29 : decode cX1_isRest 29 = .ok (.if_icmp .le 5, 3) := by decide +kernel
theorem dX1_isRest_32 : decode cX1_isRest 32 = .ok (.iconst 0, 1) := by decide +kernel
theorem dX1_isRest_33 : decode cX1_isRest 33 = .ok (.ireturn, 1) := by decide +kernel
theorem dX1_isRest_34 : decode cX1_isRest 34 = .ok (.iinc 2 1, 3) := by decide +kernel
theorem dX1_isRest_37 : decode cX1_isRest 37 = .ok (.goto (-35), 3) := by decide +kernel
theorem dX1_isRest_40 : decode cX1_isRest 40 = .ok (.iconst 1, 1) := by decide +kernel
theorem dX1_isRest_41 : decode cX1_isRest 41 = .ok (.ireturn, 1) := by decide +kernel
theorem dX1_minutesIn_0 : decode cX1_minutesIn 0 = .ok (.iload_n 1, 1) := by decide +kernel
theorem dX1_minutesIn_1 : decode cX1_minutesIn 1 = .ok (.aload_n 0, 1) := by decide +kernel
theorem dX1_minutesIn_2 : decode cX1_minutesIn 2 = .ok (.getfield 27, 3) := by decide +kernel
theorem dX1_minutesIn_5 : decode cX1_minutesIn 5 = .ok (.iand, 1) := by decide +kernel
theorem dX1_minutesIn_6 : decode cX1_minutesIn 6 = .ok (.istore_n 3, 1) := by decide +kernel
theorem dX1_minutesIn_7 : decode cX1_minutesIn 7 = .ok (.iload_n 3, 1) := by decide +kernel
theorem dX1_minutesIn_8 : decode cX1_minutesIn 8 = .ok (.ifCond .lt 12, 3) := by decide +kernel
theorem dX1_minutesIn_11 : decode cX1_minutesIn 11 = .ok (.iload_n 3, 1) := by decide +kernel
theorem dX1_minutesIn_12 : decode cX1_minutesIn 12 = .ok (.aload_n 0, 1) := by decide +kernel
theorem dX1_minutesIn_13 : decode cX1_minutesIn 13 = .ok (.getfield 15, 3) := by decide +kernel
theorem dX1_minutesIn_16 : decode cX1_minutesIn 16 = .ok (.arraylength, 1) := by decide +kernel
theorem dX1_minutesIn_17 : decode cX1_minutesIn 17 = .ok (.if_icmp .lt 5, 3) := by decide +kernel
theorem dX1_minutesIn_20 : decode cX1_minutesIn 20 = .ok (.iconst 0, 1) := by decide +kernel
theorem dX1_minutesIn_21 : decode cX1_minutesIn 21 = .ok (.ireturn, 1) := by decide +kernel
theorem dX1_minutesIn_22 : decode cX1_minutesIn 22 = .ok (.aload_n 0, 1) := by decide +kernel
theorem dX1_minutesIn_23 : decode cX1_minutesIn 23 = .ok (.getfield 15, 3) := by decide +kernel
theorem dX1_minutesIn_26 : decode cX1_minutesIn 26 = .ok (.iload_n 3, 1) := by decide +kernel
theorem dX1_minutesIn_27 : decode cX1_minutesIn 27 = .ok (.laload, 1) := by decide +kernel
theorem dX1_minutesIn_28 : decode cX1_minutesIn 28 = .ok (.ldc2_w 30, 3) := by decide +kernel
theorem dX1_minutesIn_31 : decode cX1_minutesIn 31 = .ok (.lcmp, 1) := by decide +kernel
theorem dX1_minutesIn_32 : decode cX1_minutesIn 32 = .ok (.ifCond .ne 42, 3) := by decide +kernel
theorem dX1_minutesIn_35 : decode cX1_minutesIn 35 = .ok (.aload_n 0, 1) := by decide +kernel
theorem dX1_minutesIn_36 : decode cX1_minutesIn 36 = .ok (.getfield 9, 3) := by decide +kernel
theorem dX1_minutesIn_39 : decode cX1_minutesIn 39 = .ok (.aload_n 0, 1) := by decide +kernel
theorem dX1_minutesIn_40 : decode cX1_minutesIn 40 = .ok (.getfield 19, 3) := by decide +kernel
theorem dX1_minutesIn_43 : decode cX1_minutesIn 43 = .ok (.aload_n 0, 1) := by decide +kernel
theorem dX1_minutesIn_44 : decode cX1_minutesIn 44 = .ok (.getfield 23, 3) := by decide +kernel
theorem dX1_minutesIn_47 : decode cX1_minutesIn 47 = .ok (.iload_n 3, 1) := by decide +kernel
theorem dX1_minutesIn_48 : decode cX1_minutesIn 48 = .ok (.invokevirtual 52, 3) := by decide +kernel
theorem dX1_minutesIn_51 : decode cX1_minutesIn 51 = .ok (.aload_n 0, 1) := by decide +kernel
theorem dX1_minutesIn_52 : decode cX1_minutesIn 52 = .ok (.getfield 9, 3) := by decide +kernel
theorem dX1_minutesIn_55 : decode cX1_minutesIn 55 = .ok (.sipush 399, 3) := by decide +kernel
theorem dX1_minutesIn_58 : decode cX1_minutesIn 58 = .ok (.invokevirtual 58, 3) := by decide +kernel
theorem dX1_minutesIn_61 : decode cX1_minutesIn 61 = .ok (.aload_n 0, 1) := by decide +kernel
theorem dX1_minutesIn_62 : decode cX1_minutesIn 62 = .ok (.getfield 15, 3) := by decide +kernel
theorem dX1_minutesIn_65 : decode cX1_minutesIn 65 = .ok (.iload_n 3, 1) := by decide +kernel
theorem dX1_minutesIn_66 : decode cX1_minutesIn 66 = .ok (.aload_n 0, 1) := by decide +kernel
theorem dX1_minutesIn_67 : decode cX1_minutesIn 67 = .ok (.getfield 9, 3) := by decide +kernel
theorem dX1_minutesIn_70 : decode cX1_minutesIn 70 = .ok (.invokevirtual 62, 3) := by decide +kernel
theorem dX1_minutesIn_73 : decode cX1_minutesIn 73 = .ok (.lastore, 1) := by decide +kernel
theorem dX1_minutesIn_74 : decode cX1_minutesIn 74 = .ok (.aload_n 0, 1) := by decide +kernel
theorem dX1_minutesIn_75 : decode cX1_minutesIn 75 = .ok (.getfield 15, 3) := by decide +kernel
theorem dX1_minutesIn_78 : decode cX1_minutesIn 78 = .ok (.iload_n 3, 1) := by decide +kernel
theorem dX1_minutesIn_79 : decode cX1_minutesIn 79 = .ok (.laload, 1) := by decide +kernel
theorem dX1_minutesIn_80 : decode cX1_minutesIn 80 = .ok (.bipush 8, 2) := by decide +kernel
theorem dX1_minutesIn_82 : decode cX1_minutesIn 82 = .ok (.iload_n 2, 1) := by decide +kernel
theorem dX1_minutesIn_83 : decode cX1_minutesIn 83 = .ok (.imul, 1) := by decide +kernel
theorem dX1_minutesIn_84 : decode cX1_minutesIn 84 = .ok (.lushr, 1) := by decide +kernel
theorem dX1_minutesIn_85 : decode cX1_minutesIn 85 = .ok (.l2i, 1) := by decide +kernel
theorem dX1_minutesIn_86 : decode cX1_minutesIn 86 = .ok (.sipush 255, 3) := by decide +kernel
theorem dX1_minutesIn_89 : decode cX1_minutesIn 89 = .ok (.iand, 1) := by decide +kernel
theorem dX1_minutesIn_90 : decode cX1_minutesIn 90 = .ok (.ireturn, 1) := by decide +kernel
theorem dX2_noMoreThan_0 : decode cX2_noMoreThan 0 = .ok (.lconst 0, 1) := by decide +kernel
theorem dX2_noMoreThan_1 : decode cX2_noMoreThan 1 = .ok (.lstore_n 3, 1) := by decide +kernel
theorem dX2_noMoreThan_2 : decode cX2_noMoreThan 2 = .ok (.lconst 1, 1) := by decide +kernel
theorem dX2_noMoreThan_3 : decode cX2_noMoreThan 3 = .ok (.lstore 5, 2) := by decide +kernel
theorem dX2_noMoreThan_5 : decode cX2_noMoreThan 5 = .ok (.iconst 0, 1) := by decide +kernel
theorem dX2_noMoreThan_6 : decode cX2_noMoreThan 6 = .ok (.istore 7, 2) := by decide +kernel
theorem dX2_noMoreThan_8 : decode cX2_noMoreThan 8 = .ok (.iload 7, 2) := by decide +kernel
theorem dX2_noMoreThan_10 : decode cX2_noMoreThan 10 = .ok (.iload_n 0, 1) := by decide +kernel
theorem dX2_noMoreThan_11 : decode cX2_noMoreThan 11 = .ok (.if_icmp .gt 55, 3) := by decide +kernel
theorem dX2_noMoreThan_14 : decode cX2_noMoreThan 14 = .ok (.iload 7, 2) := by decide +kernel
theorem dX2_noMoreThan_16 : decode cX2_noMoreThan 16 = .ok (.iload_n 1, 1) := by decide +kernel
theorem dX2_noMoreThan_17 : decode cX2_noMoreThan 17 = .ok (.if_icmp .gt 49, 3) := by decide +kernel
theorem dX2_noMoreThan_20 : decode cX2_noMoreThan 20 = .ok (.lload_n 3, 1) := by decide +kernel
theorem dX2_noMoreThan_21 : decode cX2_noMoreThan 21 = .ok (.lload 5, 2) := by decide +kernel
theorem dX2_noMoreThan_23 : decode cX2_noMoreThan 23 = .ok (.iload_n 2, 1) := by decide +kernel
theorem dX2_noMoreThan_24 : decode cX2_noMoreThan 24 = .ok (.iload 7, 2) := by decide +kernel
theorem dX2_noMoreThan_26 : decode cX2_noMoreThan 26 = .ok (.invokestatic 7, 3) := by decide +kernel
theorem dX2_noMoreThan_29 : decode cX2_noMoreThan 29 = .ok (.lmul, 1) := by decide +kernel
theorem dX2_noMoreThan_30 : decode cX2_noMoreThan 30 = .ok (.bipush 10, 2) := by decide +kernel
theorem dX2_noMoreThan_32 : decode cX2_noMoreThan 32 = .ok (.iload_n 2, 1) := by decide +kernel
theorem dX2_noMoreThan_33 : decode cX2_noMoreThan 33 = .ok (.isub, 1) := by decide +kernel
theorem dX2_noMoreThan_34 : decode cX2_noMoreThan 34 = .ok (.iload_n 0, 1) := by decide +kernel
theorem dX2_noMoreThan_35 : decode cX2_noMoreThan 35 = .ok (.iload 7, 2) := by decide +kernel
theorem dX2_noMoreThan_37 : decode cX2_noMoreThan 37 = .ok (.isub, 1) := by decide +kernel
theorem dX2_noMoreThan_38 : decode cX2_noMoreThan 38 = .ok (.invokestatic 7, 3) := by decide +kernel
theorem dX2_noMoreThan_41 : decode cX2_noMoreThan 41 = .ok (.lmul, 1) := by decide +kernel
theorem dX2_noMoreThan_42 : decode cX2_noMoreThan 42 = .ok (.ladd, 1) := by decide +kernel
theorem dX2_noMoreThan_43 : decode cX2_noMoreThan 43 = .ok (.lstore_n 3, 1) := by decide +kernel
theorem dX2_noMoreThan_44 : decode cX2_noMoreThan 44 = .ok (.lload 5, 2) := by decide +kernel
theorem dX2_noMoreThan_46 : decode cX2_noMoreThan 46 = .ok (.iload_n 0, 1) := by decide +kernel
theorem dX2_noMoreThan_47 : decode cX2_noMoreThan 47 = .ok (.iload 7, 2) := by decide +kernel
theorem dX2_noMoreThan_49 : decode cX2_noMoreThan 49 = .ok (.isub, 1) := by decide +kernel
theorem dX2_noMoreThan_50 : decode cX2_noMoreThan 50 = .ok (.i2l, 1) := by decide +kernel
theorem dX2_noMoreThan_51 : decode cX2_noMoreThan 51 = .ok (.lmul, 1) := by decide +kernel
theorem dX2_noMoreThan_52 : decode cX2_noMoreThan 52 = .ok (.iload 7, 2) := by decide +kernel
theorem dX2_noMoreThan_54 : decode cX2_noMoreThan 54 = .ok (.iconst 1, 1) := by decide +kernel
theorem dX2_noMoreThan_55 : decode cX2_noMoreThan 55 = .ok (.iadd, 1) := by decide +kernel
theorem dX2_noMoreThan_56 : decode cX2_noMoreThan 56 = .ok (.i2l, 1) := by decide +kernel
theorem dX2_noMoreThan_57 : decode cX2_noMoreThan 57 = .ok (.ldiv, 1) := by decide +kernel
theorem dX2_noMoreThan_58 : decode cX2_noMoreThan 58 = .ok (.lstore 5, 2) := by decide +kernel
theorem dX2_noMoreThan_60 : decode cX2_noMoreThan 60 = .ok (.iinc 7 1, 3) := by decide +kernel
theorem dX2_noMoreThan_63 : decode cX2_noMoreThan 63 = .ok (.goto (-55), 3) := by decide +kernel
theorem dX2_noMoreThan_66 : decode cX2_noMoreThan 66 = .ok (.lload_n 3, 1) := by decide +kernel
theorem dX2_noMoreThan_67 : decode cX2_noMoreThan 67 = .ok (.lreturn, 1) := by decide +kernel
theorem dX2_power_0 : decode cX2_power 0 = .ok (.lconst 1, 1) := by decide +kernel
theorem dX2_power_1 : decode cX2_power 1 = .ok (.lstore_n 2, 1) := by decide +kernel
theorem dX2_power_2 : decode cX2_power 2 = .ok (.iconst 0, 1) := by decide +kernel
theorem dX2_power_3 : decode cX2_power 3 = .ok (.istore 4, 2) := by decide +kernel
theorem dX2_power_5 : decode cX2_power 5 = .ok (.iload 4, 2) := by decide +kernel
theorem dX2_power_7 : decode cX2_power 7 = .ok (.iload_n 1, 1) := by decide +kernel
theorem dX2_power_8 : decode cX2_power 8 = .ok (.if_icmp .ge 14, 3) := by decide +kernel
theorem dX2_power_11 : decode cX2_power 11 = .ok (.lload_n 2, 1) := by decide +kernel
theorem dX2_power_12 : decode cX2_power 12 = .ok (.iload_n 0, 1) := by decide +kernel
theorem dX2_power_13 : decode cX2_power 13 = .ok (.i2l, 1) := by decide +kernel
theorem dX2_power_14 : decode cX2_power 14 = .ok (.lmul, 1) := by decide +kernel
theorem dX2_power_15 : decode cX2_power 15 = .ok (.lstore_n 2, 1) := by decide +kernel
theorem dX2_power_16 : decode cX2_power 16 = .ok (.iinc 4 1, 3) := by decide +kernel
theorem dX2_power_19 : decode cX2_power 19 = .ok (.goto (-14), 3) := by decide +kernel
theorem dX2_power_22 : decode cX2_power 22 = .ok (.lload_n 2, 1) := by decide +kernel
theorem dX2_power_23 : decode cX2_power 23 = .ok (.lreturn, 1) := by decide +kernel
theorem dX2_commonDivisor_0 : decode cX2_commonDivisor 0 = .ok (.lload_n 0, 1) := by decide +kernel
theorem dX2_commonDivisor_1 : decode cX2_commonDivisor 1 = .ok (.lstore 4, 2) := by decide +kernel
theorem dX2_commonDivisor_3 : decode cX2_commonDivisor 3 = .ok (.lload_n 2, 1) := by decide +kernel
theorem dX2_commonDivisor_4 : decode cX2_commonDivisor 4 = .ok (.lstore 6, 2) := by decide +kernel
theorem dX2_commonDivisor_6 : decode cX2_commonDivisor 6 = .ok (.iconst 0, 1) := by decide +kernel
theorem dX2_commonDivisor_7 : decode cX2_commonDivisor 7 = .ok (.istore 8, 2) := by decide +kernel
theorem dX2_commonDivisor_9 : decode cX2_commonDivisor 9 = .ok (.iload 8, 2) := by decide +kernel
theorem dX2_commonDivisor_11 : decode cX2_commonDivisor 11 = .ok (.sipush 1000, 3) := by decide +kernel
theorem dX2_commonDivisor_14 : decode cX2_commonDivisor 14 = .ok (.if_icmp .ge 31, 3) := by decide +kernel
theorem dX2_commonDivisor_17 : decode cX2_commonDivisor 17 = .ok (.lload 6, 2) := by decide +kernel
theorem dX2_commonDivisor_19 : decode cX2_commonDivisor 19 = .ok (.lconst 0, 1) := by decide +kernel
theorem dX2_commonDivisor_20 : decode cX2_commonDivisor 20 = .ok (.lcmp, 1) := by decide +kernel
theorem dX2_commonDivisor_21 : decode cX2_commonDivisor 21 = .ok (.ifCond .le 24, 3) := by decide +kernel
theorem dX2_commonDivisor_24 : decode cX2_commonDivisor 24 = .ok (.lload 4, 2) := by decide +kernel
theorem dX2_commonDivisor_26 : decode cX2_commonDivisor 26 = .ok (.lload 6, 2) := by decide +kernel
theorem dX2_commonDivisor_28 : decode cX2_commonDivisor 28 = .ok (.lrem, 1) := by decide +kernel
theorem dX2_commonDivisor_29 : decode cX2_commonDivisor 29 = .ok (.lstore 9, 2) := by decide +kernel
theorem dX2_commonDivisor_31 : decode cX2_commonDivisor 31 = .ok (.lload 6, 2) := by decide +kernel
theorem dX2_commonDivisor_33 : decode cX2_commonDivisor 33 = .ok (.lstore 4, 2) := by decide +kernel
theorem dX2_commonDivisor_35 : decode cX2_commonDivisor 35 = .ok (.lload 9, 2) := by decide +kernel
theorem dX2_commonDivisor_37 : decode cX2_commonDivisor 37 = .ok (.lstore 6, 2) := by decide +kernel
theorem dX2_commonDivisor_39 : decode cX2_commonDivisor 39 = .ok (.iinc 8 1, 3) := by decide +kernel
theorem dX2_commonDivisor_42 : decode cX2_commonDivisor 42 = .ok (.goto (-33), 3) := by decide +kernel
theorem dX2_commonDivisor_45 : decode cX2_commonDivisor 45 = .ok (.lload 4, 2) := by decide +kernel
theorem dX2_commonDivisor_47 : decode cX2_commonDivisor 47 = .ok (.lreturn, 1) := by decide +kernel
theorem dX3_init_0 : decode cX3_init 0 = .ok (.aload_n 0, 1) := by decide +kernel
theorem dX3_init_1 : decode cX3_init 1 = .ok (.invokespecial 3, 3) := by decide +kernel
theorem dX3_init_4 : decode cX3_init 4 = .ok (.aload_n 0, 1) := by decide +kernel
theorem dX3_init_5 : decode cX3_init 5 = .ok (.bipush 10, 2) := by decide +kernel
theorem dX3_init_7 : decode cX3_init 7 = .ok (.newarray .int, 2) := by decide +kernel
theorem dX3_init_9 : decode cX3_init 9 = .ok (.putfield 9, 3) := by decide +kernel
theorem dX3_init_12 : decode cX3_init 12 = .ok (.aload_n 0, 1) := by decide +kernel
theorem dX3_init_13 : decode cX3_init 13 = .ok (.bipush 56, 2) := by decide +kernel
theorem dX3_init_15 : decode cX3_init 15 = .ok (.newarray .int, 2) := by decide +kernel
theorem dX3_init_17 : decode cX3_init 17 = .ok (.putfield 15, 3) := by decide +kernel
theorem dX3_init_20 : decode cX3_init 20 = .ok (.aload_n 0, 1) := by decide +kernel
theorem dX3_init_21 : decode cX3_init 21 = .ok (.invokevirtual 18, 3) := by decide +kernel
theorem dX3_init_24 : decode cX3_init 24 = .ok (.return_, 1) := by decide +kernel
theorem dX3_clear_0 : decode cX3_clear 0 = .ok (.aload_n 0, 1) := by decide +kernel
theorem dX3_clear_1 : decode cX3_clear 1 = .ok (.iconst 0, 1) := by decide +kernel
theorem dX3_clear_2 : decode cX3_clear 2 = .ok (.putfield 21, 3) := by decide +kernel
theorem dX3_clear_5 : decode cX3_clear 5 = .ok (.aload_n 0, 1) := by decide +kernel
theorem dX3_clear_6 : decode cX3_clear 6 = .ok (.iconst 0, 1) := by decide +kernel
theorem dX3_clear_7 : decode cX3_clear 7 = .ok (.putfield 25, 3) := by decide +kernel
theorem dX3_clear_10 : decode cX3_clear 10 = .ok (.aload_n 0, 1) := by decide +kernel
theorem dX3_clear_11 : decode cX3_clear 11 = .ok (.bipush 30, 2) := by decide +kernel
theorem dX3_clear_13 : decode cX3_clear 13 = .ok (.putfield 28, 3) := by decide +kernel
theorem dX3_clear_16 : decode cX3_clear 16 = .ok (.aload_n 0, 1) := by decide +kernel
theorem dX3_clear_17 : decode cX3_clear 17 = .ok (.bipush 20, 2) := by decide +kernel
theorem dX3_clear_19 : decode cX3_clear 19 = .ok (.putfield 31, 3) := by decide +kernel
theorem dX3_clear_22 : decode cX3_clear 22 = .ok (.aload_n 0, 1) := by decide +kernel
theorem dX3_clear_23 : decode cX3_clear 23 = .ok (.bipush 15, 2) := by decide +kernel
theorem dX3_clear_25 : decode cX3_clear 25 = .ok (.putfield 34, 3) := by decide +kernel
theorem dX3_clear_28 : decode cX3_clear 28 = .ok (.aload_n 0, 1) := by decide +kernel
theorem dX3_clear_29 : decode cX3_clear 29 = .ok (.bipush 20, 2) := by decide +kernel
theorem dX3_clear_31 : decode cX3_clear 31 = .ok (.putfield 37, 3) := by decide +kernel
theorem dX3_clear_34 : decode cX3_clear 34 = .ok (.aload_n 0, 1) := by decide +kernel
theorem dX3_clear_35 : decode cX3_clear 35 = .ok (.iconst 0, 1) := by decide +kernel
theorem dX3_clear_36 : decode cX3_clear 36 = .ok (.putfield 40, 3) := by decide +kernel
theorem dX3_clear_39 : decode cX3_clear 39 = .ok (.return_, 1) := by decide +kernel
theorem dX3_addSeat_0 : decode cX3_addSeat 0 = .ok (.aload_n 0, 1) := by decide +kernel
theorem dX3_addSeat_1 : decode cX3_addSeat 1 = .ok (.getfield 21, 3) := by decide +kernel
theorem dX3_addSeat_4 : decode cX3_addSeat 4 = .ok (.aload_n 0, 1) := by decide +kernel
theorem dX3_addSeat_5 : decode cX3_addSeat 5 = .ok (.getfield 9, 3) := by decide +kernel
theorem dX3_addSeat_8 : decode cX3_addSeat 8 = .ok (.arraylength, 1) := by decide +kernel
theorem dX3_addSeat_9 : decode cX3_addSeat 9 = .ok (.if_icmp .lt 5, 3) := by decide +kernel
theorem dX3_addSeat_12 : decode cX3_addSeat 12 = .ok (.iconst 0, 1) := by decide +kernel
theorem dX3_addSeat_13 : decode cX3_addSeat 13 = .ok (.ireturn, 1) := by decide +kernel
theorem dX3_addSeat_14 : decode cX3_addSeat 14 = .ok (.aload_n 0, 1) := by decide +kernel
theorem dX3_addSeat_15 : decode cX3_addSeat 15 = .ok (.getfield 9, 3) := by decide +kernel
theorem dX3_addSeat_18 : decode cX3_addSeat 18 = .ok (.aload_n 0, 1) := by decide +kernel
theorem dX3_addSeat_19 : decode cX3_addSeat 19 = .ok (.getfield 21, 3) := by decide +kernel
theorem dX3_addSeat_22 : decode cX3_addSeat 22 = .ok (.iload_n 1, 1) := by decide +kernel
theorem dX3_addSeat_23 : decode cX3_addSeat 23 = .ok (.iastore, 1) := by decide +kernel
theorem dX3_addSeat_24 : decode cX3_addSeat 24 = .ok (.aload_n 0, 1) := by decide +kernel
theorem dX3_addSeat_25 : decode cX3_addSeat 25 = .ok (.dup, 1) := by decide +kernel
theorem dX3_addSeat_26 : decode cX3_addSeat 26 = .ok (.getfield 21, 3) := by decide +kernel
theorem dX3_addSeat_29 : decode cX3_addSeat 29 = .ok (.iconst 1, 1) := by decide +kernel
theorem dX3_addSeat_30 : decode cX3_addSeat 30 = .ok (.iadd, 1) := by decide +kernel
theorem dX3_addSeat_31 : decode cX3_addSeat 31 = .ok (.putfield 21, 3) := by decide +kernel
theorem dX3_addSeat_34 : decode cX3_addSeat 34 = .ok (.iconst 1, 1) := by decide +kernel
theorem dX3_addSeat_35 : decode cX3_addSeat 35 = .ok (.ireturn, 1) := by decide +kernel
theorem dX3_addReader_0 : decode cX3_addReader 0 = .ok (.aload_n 0, 1) := by decide +kernel
theorem dX3_addReader_1 : decode cX3_addReader 1 = .ok (.getfield 25, 3) := by decide +kernel
theorem dX3_addReader_4 : decode cX3_addReader 4 = .ok (.bipush 8, 2) := by decide +kernel
theorem dX3_addReader_6 : decode cX3_addReader 6 = .ok (.if_icmp .ge 10, 3) := by decide +kernel
theorem dX3_addReader_9 : decode cX3_addReader 9 = .ok (.aload_n 1, 1) := by decide +kernel
theorem dX3_addReader_10 : decode cX3_addReader 10 = .ok (.arraylength, 1) := by decide +kernel
theorem dX3_addReader_11 : decode cX3_addReader 11 = .ok (.bipush 7, 2) := by decide +kernel
theorem dX3_addReader_13 : decode cX3_addReader 13 = .ok (.if_icmp .ge 5, 3) := by decide +kernel
theorem dX3_addReader_16 : decode cX3_addReader 16 = .ok (.iconst 0, 1) := by decide +kernel
theorem dX3_addReader_17 : decode cX3_addReader 17 = .ok (.ireturn, 1) := by decide +kernel
theorem dX3_addReader_18 : decode cX3_addReader 18 = .ok (.aload_n 1, 1) := by decide +kernel
theorem dX3_addReader_19 : decode cX3_addReader 19 = .ok (.iconst 0, 1) := by decide +kernel
theorem dX3_addReader_20 : decode cX3_addReader 20 = .ok (.aload_n 0, 1) := by decide +kernel
theorem dX3_addReader_21 : decode cX3_addReader 21 = .ok (.getfield 15, 3) := by decide +kernel
theorem dX3_addReader_24 : decode cX3_addReader 24 = .ok (.aload_n 0, 1) := by decide +kernel
theorem dX3_addReader_25 : decode cX3_addReader 25 = .ok (.getfield 25, 3) := by decide +kernel
theorem dX3_addReader_28 : decode cX3_addReader 28 = .ok (.bipush 7, 2) := by decide +kernel
theorem dX3_addReader_30 : decode cX3_addReader 30 = .ok (.imul, 1) := by decide +kernel
theorem dX3_addReader_31 : decode cX3_addReader 31 = .ok (.bipush 7, 2) := by decide +kernel
theorem dX3_addReader_33 : decode cX3_addReader 33 = .ok (.invokestatic 43, 3) := by decide +kernel
theorem dX3_addReader_36 : decode cX3_addReader 36 = .ok (.aload_n 0, 1) := by decide +kernel
theorem dX3_addReader_37 : decode cX3_addReader 37 = .ok (.dup, 1) := by decide +kernel
theorem dX3_addReader_38 : decode cX3_addReader 38 = .ok (.getfield 25, 3) := by decide +kernel
theorem dX3_addReader_41 : decode cX3_addReader 41 = .ok (.iconst 1, 1) := by decide +kernel
theorem dX3_addReader_42 : decode cX3_addReader 42 = .ok (.iadd, 1) := by decide +kernel
theorem dX3_addReader_43 : decode cX3_addReader 43 = .ok (.putfield 25, 3) := by decide +kernel
theorem dX3_addReader_46 : decode cX3_addReader 46 = .ok (.iconst 1, 1) := by decide +kernel
theorem dX3_addReader_47 : decode cX3_addReader 47 = .ok (.ireturn, 1) := by decide +kernel
theorem dX3_setCards_0 : decode cX3_setCards 0 = .ok (.aload_n 0, 1) := by decide +kernel
theorem dX3_setCards_1 : decode cX3_setCards 1 = .ok (.iload_n 1, 1) := by decide +kernel
theorem dX3_setCards_2 : decode cX3_setCards 2 = .ok (.putfield 28, 3) := by decide +kernel
theorem dX3_setCards_5 : decode cX3_setCards 5 = .ok (.aload_n 0, 1) := by decide +kernel
theorem dX3_setCards_6 : decode cX3_setCards 6 = .ok (.iload_n 2, 1) := by decide +kernel
theorem dX3_setCards_7 : decode cX3_setCards 7 = .ok (.putfield 31, 3) := by decide +kernel
theorem dX3_setCards_10 : decode cX3_setCards 10 = .ok (.iconst 1, 1) := by decide +kernel
theorem dX3_setCards_11 : decode cX3_setCards 11 = .ok (.ireturn, 1) := by decide +kernel
theorem dX3_setLamps_0 : decode cX3_setLamps 0 = .ok (.aload_n 0, 1) := by decide +kernel
theorem dX3_setLamps_1 : decode cX3_setLamps 1 = .ok (.iload_n 1, 1) := by decide +kernel
theorem dX3_setLamps_2 : decode cX3_setLamps 2 = .ok (.putfield 34, 3) := by decide +kernel
theorem dX3_setLamps_5 : decode cX3_setLamps 5 = .ok (.iconst 1, 1) := by decide +kernel
theorem dX3_setLamps_6 : decode cX3_setLamps 6 = .ok (.ireturn, 1) := by decide +kernel
theorem dX3_setSeeking_0 : decode cX3_setSeeking 0 = .ok (.aload_n 0, 1) := by decide +kernel
theorem dX3_setSeeking_1 : decode cX3_setSeeking 1 = .ok (.iload_n 1, 1) := by decide +kernel
theorem dX3_setSeeking_2 : decode cX3_setSeeking 2 = .ok (.putfield 37, 3) := by decide +kernel
theorem dX3_setSeeking_5 : decode cX3_setSeeking 5 = .ok (.iconst 1, 1) := by decide +kernel
theorem dX3_setSeeking_6 : decode cX3_setSeeking 6 = .ok (.ireturn, 1) := by decide +kernel
theorem dX3_setLater_0 : decode cX3_setLater 0 = .ok (.aload_n 0, 1) := by decide +kernel
theorem dX3_setLater_1 : decode cX3_setLater 1 = .ok (.iload_n 1, 1) := by decide +kernel
theorem dX3_setLater_2 : decode cX3_setLater 2 = .ok (.putfield 40, 3) := by decide +kernel
theorem dX3_setLater_5 : decode cX3_setLater 5 = .ok (.iconst 1, 1) := by decide +kernel
theorem dX3_setLater_6 : decode cX3_setLater 6 = .ok (.ireturn, 1) := by decide +kernel
theorem dX3_seatCount_0 : decode cX3_seatCount 0 = .ok (.aload_n 0, 1) := by decide +kernel
theorem dX3_seatCount_1 : decode cX3_seatCount 1 = .ok (.getfield 21, 3) := by decide +kernel
theorem dX3_seatCount_4 : decode cX3_seatCount 4 = .ok (.ireturn, 1) := by decide +kernel
theorem dX3_readerCount_0 : decode cX3_readerCount 0 = .ok (.aload_n 0, 1) := by decide +kernel
theorem dX3_readerCount_1 : decode cX3_readerCount 1 = .ok (.getfield 25, 3) := by decide +kernel
theorem dX3_readerCount_4 : decode cX3_readerCount 4 = .ok (.ireturn, 1) := by decide +kernel
theorem dX3_cardMinutes_0 : decode cX3_cardMinutes 0 = .ok (.aload_n 0, 1) := by decide +kernel
theorem dX3_cardMinutes_1 : decode cX3_cardMinutes 1 = .ok (.getfield 28, 3) := by decide +kernel
theorem dX3_cardMinutes_4 : decode cX3_cardMinutes 4 = .ok (.ireturn, 1) := by decide +kernel
theorem dX3_porterMinutes_0 : decode cX3_porterMinutes 0 = .ok (.aload_n 0, 1) := by decide +kernel
theorem dX3_porterMinutes_1 : decode cX3_porterMinutes 1 = .ok (.getfield 31, 3) := by decide +kernel
theorem dX3_porterMinutes_4 : decode cX3_porterMinutes 4 = .ok (.ireturn, 1) := by decide +kernel
theorem dX3_lampMinutes_0 : decode cX3_lampMinutes 0 = .ok (.aload_n 0, 1) := by decide +kernel
theorem dX3_lampMinutes_1 : decode cX3_lampMinutes 1 = .ok (.getfield 34, 3) := by decide +kernel
theorem dX3_lampMinutes_4 : decode cX3_lampMinutes 4 = .ok (.ireturn, 1) := by decide +kernel
theorem dX3_seekMinutes_0 : decode cX3_seekMinutes 0 = .ok (.aload_n 0, 1) := by decide +kernel
theorem dX3_seekMinutes_1 : decode cX3_seekMinutes 1 = .ok (.getfield 37, 3) := by decide +kernel
theorem dX3_seekMinutes_4 : decode cX3_seekMinutes 4 = .ok (.ireturn, 1) := by decide +kernel
theorem dX3_laterMinutes_0 : decode cX3_laterMinutes 0 = .ok (.aload_n 0, 1) := by decide +kernel
theorem dX3_laterMinutes_1 : decode cX3_laterMinutes 1 = .ok (.getfield 40, 3) := by decide +kernel
theorem dX3_laterMinutes_4 : decode cX3_laterMinutes 4 = .ok (.ireturn, 1) := by decide +kernel
theorem dX3_everybody_0 : decode cX3_everybody 0 = .ok (.iconst 1, 1) := by decide +kernel
theorem dX3_everybody_1 : decode cX3_everybody 1 = .ok (.aload_n 0, 1) := by decide +kernel
theorem dX3_everybody_2 : decode cX3_everybody 2 = .ok (.getfield 25, 3) := by decide +kernel
theorem dX3_everybody_5 : decode cX3_everybody 5 = .ok (.ishl, 1) := by decide +kernel
theorem dX3_everybody_6 : decode cX3_everybody 6 = .ok (.iconst 1, 1) := by decide +kernel
theorem dX3_everybody_7 : decode cX3_everybody 7 = .ok (.isub, 1) := by decide +kernel
theorem dX3_everybody_8 : decode cX3_everybody 8 = .ok (.ireturn, 1) := by decide +kernel
theorem dX3_kindOf_0 : decode cX3_kindOf 0 = .ok (.iload_n 1, 1) := by decide +kernel
theorem dX3_kindOf_1 : decode cX3_kindOf 1 = .ok (.ifCond .lt 20, 3) := by decide +kernel
theorem dX3_kindOf_4 : decode cX3_kindOf 4 = .ok (.iload_n 1, 1) := by decide +kernel
theorem dX3_kindOf_5 : decode cX3_kindOf 5 = .ok (.aload_n 0, 1) := by decide +kernel
theorem dX3_kindOf_6 : decode cX3_kindOf 6 = .ok (.getfield 21, 3) := by decide +kernel
theorem dX3_kindOf_9 : decode cX3_kindOf 9 = .ok (.if_icmp .ge 12, 3) := by decide +kernel
theorem dX3_kindOf_12 : decode cX3_kindOf 12 = .ok (.aload_n 0, 1) := by decide +kernel
theorem dX3_kindOf_13 : decode cX3_kindOf 13 = .ok (.getfield 9, 3) := by decide +kernel
theorem dX3_kindOf_16 : decode cX3_kindOf 16 = .ok (.iload_n 1, 1) := by decide +kernel
theorem dX3_kindOf_17 : decode cX3_kindOf 17 = .ok (.iaload, 1) := by decide +kernel
theorem dX3_kindOf_18 : decode cX3_kindOf 18 = .ok (.goto 4, 3) := by decide +kernel
theorem dX3_kindOf_21 : decode cX3_kindOf 21 = .ok (.iconst 0, 1) := by decide +kernel
theorem dX3_kindOf_22 : decode cX3_kindOf 22 = .ok (.ireturn, 1) := by decide +kernel
theorem dX3_number_0 : decode cX3_number 0 = .ok (.iload_n 1, 1) := by decide +kernel
theorem dX3_number_1 : decode cX3_number 1 = .ok (.ifCond .lt 25, 3) := by decide +kernel
theorem dX3_number_4 : decode cX3_number 4 = .ok (.iload_n 1, 1) := by decide +kernel
theorem dX3_number_5 : decode cX3_number 5 = .ok (.aload_n 0, 1) := by decide +kernel
theorem dX3_number_6 : decode cX3_number 6 = .ok (.getfield 25, 3) := by decide +kernel
theorem dX3_number_9 : decode cX3_number 9 = .ok (.if_icmp .ge 17, 3) := by decide +kernel
theorem dX3_number_12 : decode cX3_number 12 = .ok (.iload_n 2, 1) := by decide +kernel
theorem dX3_number_13 : decode cX3_number 13 = .ok (.ifCond .lt 13, 3) := by decide +kernel
theorem dX3_number_16 : decode cX3_number 16 = .ok (.iload_n 2, 1) := by decide +kernel
theorem dX3_number_17 : decode cX3_number 17 = .ok (.bipush 7, 2) := by decide +kernel
theorem dX3_number_19 : decode cX3_number 19 = .ok (.if_icmp .ge 7, 3) := by decide +kernel
theorem dX3_number_22 : decode cX3_number 22 = .ok (.iconst 1, 1) := by decide +kernel
theorem dX3_number_23 : decode cX3_number 23 = .ok (.goto 4, 3) := by decide +kernel
theorem dX3_number_26 : decode cX3_number 26 = .ok (.iconst 0, 1) := by decide +kernel
theorem dX3_number_27 : decode cX3_number 27 = .ok (.istore_n 3, 1) := by decide +kernel
theorem dX3_number_28 : decode cX3_number 28 = .ok (.iload_n 3, 1) := by decide +kernel
theorem dX3_number_29 : decode cX3_number 29 = .ok (.ifCond .eq 17, 3) := by decide +kernel
theorem dX3_number_32 : decode cX3_number 32 = .ok (.aload_n 0, 1) := by decide +kernel
theorem dX3_number_33 : decode cX3_number 33 = .ok (.getfield 15, 3) := by decide +kernel
theorem dX3_number_36 : decode cX3_number 36 = .ok (.iload_n 1, 1) := by decide +kernel
theorem dX3_number_37 : decode cX3_number 37 = .ok (.bipush 7, 2) := by decide +kernel
theorem dX3_number_39 : decode cX3_number 39 = .ok (.imul, 1) := by decide +kernel
theorem dX3_number_40 : decode cX3_number 40 = .ok (.iload_n 2, 1) := by decide +kernel
theorem dX3_number_41 : decode cX3_number 41 = .ok (.iadd, 1) := by decide +kernel
theorem dX3_number_42 : decode cX3_number 42 = .ok (.iaload, 1) := by decide +kernel
theorem dX3_number_43 : decode cX3_number 43 = .ok (.goto 4, 3) := by decide +kernel
theorem dX3_number_46 : decode cX3_number 46 = .ok (.iconst 0, 1) := by decide +kernel
theorem dX3_number_47 : decode cX3_number 47 = .ok (.ireturn, 1) := by decide +kernel
theorem dX3_goesOff_0 : decode cX3_goesOff 0 = .ok (.aload_n 0, 1) := by decide +kernel
theorem dX3_goesOff_1 : decode cX3_goesOff 1 = .ok (.iload_n 1, 1) := by decide +kernel
theorem dX3_goesOff_2 : decode cX3_goesOff 2 = .ok (.iconst 2, 1) := by decide +kernel
theorem dX3_goesOff_3 : decode cX3_goesOff 3 = .ok (.invokevirtual 49, 3) := by decide +kernel
theorem dX3_goesOff_6 : decode cX3_goesOff 6 = .ok (.aload_n 0, 1) := by decide +kernel
theorem dX3_goesOff_7 : decode cX3_goesOff 7 = .ok (.iload_n 1, 1) := by decide +kernel
theorem dX3_goesOff_8 : decode cX3_goesOff 8 = .ok (.iconst 1, 1) := by decide +kernel
theorem dX3_goesOff_9 : decode cX3_goesOff 9 = .ok (.invokevirtual 49, 3) := by decide +kernel
theorem dX3_goesOff_12 : decode cX3_goesOff 12 = .ok (.if_icmp .ge 7, 3) := by decide +kernel
theorem dX3_goesOff_15 : decode cX3_goesOff 15 = .ok (.iconst 1, 1) := by decide +kernel
theorem dX3_goesOff_16 : decode cX3_goesOff 16 = .ok (.goto 4, 3) := by decide +kernel
theorem dX3_goesOff_19 : decode cX3_goesOff 19 = .ok (.iconst 0, 1) := by decide +kernel
theorem dX3_goesOff_20 : decode cX3_goesOff 20 = .ok (.ireturn, 1) := by decide +kernel
theorem dX4_init_0 : decode cX4_init 0 = .ok (.aload_n 0, 1) := by decide +kernel
theorem dX4_init_1 : decode cX4_init 1 = .ok (.invokespecial 3, 3) := by decide +kernel
theorem dX4_init_4 : decode cX4_init 4 = .ok (.aload_n 0, 1) := by decide +kernel
theorem dX4_init_5 : decode cX4_init 5 = .ok (.aload_n 1, 1) := by decide +kernel
theorem dX4_init_6 : decode cX4_init 6 = .ok (.putfield 9, 3) := by decide +kernel
theorem dX4_init_9 : decode cX4_init 9 = .ok (.aload_n 0, 1) := by decide +kernel
theorem dX4_init_10 : decode cX4_init 10 = .ok (.bipush 7, 2) := by decide +kernel
theorem dX4_init_12 : decode cX4_init 12 = .ok (.newarray .int, 2) := by decide +kernel
theorem dX4_init_14 : decode cX4_init 14 = .ok (.putfield 15, 3) := by decide +kernel
theorem dX4_init_17 : decode cX4_init 17 = .ok (.aload_n 0, 1) := by decide +kernel
theorem dX4_init_18 : decode cX4_init 18 = .ok (.iconst 0, 1) := by decide +kernel
theorem dX4_init_19 : decode cX4_init 19 = .ok (.putfield 19, 3) := by decide +kernel
theorem dX4_init_22 : decode cX4_init 22 = .ok (.return_, 1) := by decide +kernel
theorem dX4_readInto_0 : decode cX4_readInto 0 = .ok (.aload_n 1, 1) := by decide +kernel
theorem dX4_readInto_1 : decode cX4_readInto 1 = .ok (.invokevirtual 23, 3) := by decide +kernel
theorem dX4_readInto_4 : decode cX4_readInto 4 = .ok (.aload_n 0, 1) := by decide +kernel
theorem dX4_readInto_5 : decode cX4_readInto 5 = .ok (.iconst 0, 1) := by decide +kernel
theorem dX4_readInto_6 : decode cX4_readInto 6 = .ok (.putfield 19, 3) := by decide +kernel
theorem dX4_readInto_9 : decode cX4_readInto 9 = .ok (.iconst 0, 1) := by decide +kernel
theorem dX4_readInto_10 : decode cX4_readInto 10 = .ok (.istore_n 2, 1) := by decide +kernel
theorem dX4_readInto_11 : decode cX4_readInto 11 = .ok (.iload_n 2, 1) := by decide +kernel
theorem dX4_readInto_12 : decode cX4_readInto 12 = .ok (.sipush 400, 3) := by decide +kernel
theorem dX4_readInto_15 : decode cX4_readInto 15 = .ok (.if_icmp .ge 82, 3) := by decide +kernel
theorem dX4_readInto_18 : decode cX4_readInto 18 = .ok (.aload_n 0, 1) := by decide +kernel
theorem dX4_readInto_19 : decode cX4_readInto 19 = .ok (.getfield 19, 3) := by decide +kernel
theorem dX4_readInto_22 : decode cX4_readInto 22 = .ok (.aload_n 0, 1) := by decide +kernel
theorem dX4_readInto_23 : decode cX4_readInto 23 = .ok (.getfield 9, 3) := by decide +kernel
theorem dX4_readInto_26 : decode cX4_readInto 26 = .ok (.invokevirtual 28, 3) := by decide +kernel
theorem dX4_readInto_29 : decode cX4_readInto 29 = .ok (.if_icmp .ge 68, 3) := by decide +kernel
theorem dX4_readInto_32 : decode cX4_readInto 32 = .ok (.aload_n 0, 1) := by decide +kernel
theorem dX4_readInto_33 : decode cX4_readInto 33 = .ok (.getfield 19, 3) := by decide +kernel
theorem dX4_readInto_36 : decode cX4_readInto 36 = .ok (.istore_n 3, 1) := by decide +kernel
theorem dX4_readInto_37 : decode cX4_readInto 37 = .ok (.aload_n 0, 1) := by decide +kernel
theorem dX4_readInto_38 : decode cX4_readInto 38 = .ok (.getfield 9, 3) := by decide +kernel
theorem dX4_readInto_41 : decode cX4_readInto 41 = .ok (.aload_n 0, 1) := by decide +kernel
theorem dX4_readInto_42 : decode cX4_readInto 42 = .ok (.getfield 19, 3) := by decide +kernel
theorem dX4_readInto_45 : decode cX4_readInto 45 = .ok (.invokevirtual 34, 3) := by decide +kernel
theorem dX4_readInto_48 : decode cX4_readInto 48 = .ok (.invokestatic 38, 3) := by decide +kernel
theorem dX4_readInto_51 : decode cX4_readInto 51 = .ok (.istore 4, 2) := by decide +kernel
theorem dX4_readInto_53 : decode cX4_readInto 53 = .ok (.aload_n 0, 1) := by decide +kernel
theorem dX4_readInto_54 : decode cX4_readInto 54 = .ok (.dup, 1) := by decide +kernel
theorem dX4_readInto_55 : decode cX4_readInto 55 = .ok (.getfield 19, 3) := by decide +kernel
theorem dX4_readInto_58 : decode cX4_readInto 58 = .ok (.iconst 1, 1) := by decide +kernel
theorem dX4_readInto_59 : decode cX4_readInto 59 = .ok (.iadd, 1) := by decide +kernel
theorem dX4_readInto_60 : decode cX4_readInto 60 = .ok (.putfield 19, 3) := by decide +kernel
theorem dX4_readInto_63 : decode cX4_readInto 63 = .ok (.iload 4, 2) := by decide +kernel
theorem dX4_readInto_65 : decode cX4_readInto 65 = .ok (.bipush (-4), 2) := by decide +kernel
theorem dX4_readInto_67 : decode cX4_readInto 67 = .ok (.if_icmp .eq 22, 3) := by decide +kernel
theorem dX4_readInto_70 : decode cX4_readInto 70 = .ok (.aload_n 0, 1) := by decide +kernel
theorem dX4_readInto_71 : decode cX4_readInto 71 = .ok (.iload 4, 2) := by decide +kernel
theorem dX4_readInto_73 : decode cX4_readInto 73 = .ok (.invokevirtual 41, 3) := by decide +kernel
theorem dX4_readInto_76 : decode cX4_readInto 76 = .ok (.ifCond .eq 13, 3) := by decide +kernel
theorem dX4_readInto_79 : decode cX4_readInto 79 = .ok (.aload_n 0, 1) := by decide +kernel
theorem dX4_readInto_80 : decode cX4_readInto 80 = .ok (.iload 4, 2) := by decide +kernel
theorem dX4_readInto_82 : decode cX4_readInto 82 = .ok (.aload_n 1, 1) := by decide +kernel
theorem dX4_readInto_83 : decode cX4_readInto 83 = .ok (.invokevirtual 45, 3) := by decide +kernel
theorem dX4_readInto_86 : decode cX4_readInto 86 = .ok (.ifCond .ne 5, 3) := by decide +kernel
theorem dX4_readInto_89 : decode cX4_readInto 89 = .ok (.iload_n 3, 1) := by decide +kernel
theorem dX4_readInto_90 : decode cX4_readInto 90 = .ok (.ireturn, 1) := by decide +kernel
theorem dX4_readInto_91 : decode cX4_readInto 91 = .ok (.iinc 2 1, 3) := by decide +kernel
theorem dX4_readInto_94 : decode cX4_readInto 94 = .ok (.goto (-83), 3) := by decide +kernel
theorem dX4_readInto_97 : decode cX4_readInto 97 = .ok (.bipush (-4), 2) := by decide +kernel
theorem dX4_readInto_99 : decode cX4_readInto 99 = .ok (.ireturn, 1) := by decide +kernel
theorem dX4_itemOf_0 : decode cX4_itemOf 0 = .ok (.iload_n 0, 1) := by decide +kernel
theorem dX4_itemOf_1 : decode cX4_itemOf 1 = .ok (.lookupswitch 71 #[(99, 63), (108, 65), (114, 61), (115, 59), (118, 69), (119, 67)], 59) := by decide +kernel
theorem dX4_itemOf_60 : decode cX4_itemOf 60 = .ok (.iconst 0, 1) := by decide +kernel
theorem dX4_itemOf_61 : decode cX4_itemOf 61 = .ok (.ireturn, 1) := by decide +kernel
theorem dX4_itemOf_62 : decode cX4_itemOf 62 = .ok (.iconst 1, 1) := by decide +kernel
theorem dX4_itemOf_63 : decode cX4_itemOf 63 = .ok (.ireturn, 1) := by decide +kernel
theorem dX4_itemOf_64 : decode cX4_itemOf 64 = .ok (.iconst 2, 1) := by decide +kernel
theorem dX4_itemOf_65 : decode cX4_itemOf 65 = .ok (.ireturn, 1) := by decide +kernel
theorem dX4_itemOf_66 : decode cX4_itemOf 66 = .ok (.iconst 3, 1) := by decide +kernel
theorem dX4_itemOf_67 : decode cX4_itemOf 67 = .ok (.ireturn, 1) := by decide +kernel
theorem dX4_itemOf_68 : decode cX4_itemOf 68 = .ok (.iconst 4, 1) := by decide +kernel
theorem dX4_itemOf_69 : decode cX4_itemOf 69 = .ok (.ireturn, 1) := by decide +kernel
theorem dX4_itemOf_70 : decode cX4_itemOf 70 = .ok (.iconst 5, 1) := by decide +kernel
theorem dX4_itemOf_71 : decode cX4_itemOf 71 = .ok (.ireturn, 1) := by decide +kernel
theorem dX4_itemOf_72 : decode cX4_itemOf 72 = .ok (.bipush (-4), 2) := by decide +kernel
theorem dX4_itemOf_74 : decode cX4_itemOf 74 = .ok (.ireturn, 1) := by decide +kernel
theorem dX4_readNumbers_0 : decode cX4_readNumbers 0 = .ok (.iload_n 1, 1) := by decide +kernel
theorem dX4_readNumbers_1 : decode cX4_readNumbers 1 = .ok (.ifCond .lt 13, 3) := by decide +kernel
theorem dX4_readNumbers_4 : decode cX4_readNumbers 4 = .ok (.iload_n 1, 1) := by decide +kernel
theorem dX4_readNumbers_5 : decode cX4_readNumbers 5 = .ok (.iconst 1, 1) := by decide +kernel
theorem dX4_readNumbers_6 : decode cX4_readNumbers 6 = .ok (.iadd, 1) := by decide +kernel
theorem dX4_readNumbers_7 : decode cX4_readNumbers 7 = .ok (.getstatic 49, 3) := by decide +kernel
theorem dX4_readNumbers_10 : decode cX4_readNumbers 10 = .ok (.arraylength, 1) := by decide +kernel
theorem dX4_readNumbers_11 : decode cX4_readNumbers 11 = .ok (.if_icmp .lt 5, 3) := by decide +kernel
theorem dX4_readNumbers_14 : decode cX4_readNumbers 14 = .ok (.iconst 0, 1) := by decide +kernel
theorem dX4_readNumbers_15 : decode cX4_readNumbers 15 = .ok (.ireturn, 1) := by decide +kernel
theorem dX4_readNumbers_16 : decode cX4_readNumbers 16 = .ok (.getstatic 49, 3) := by decide +kernel
theorem dX4_readNumbers_19 : decode cX4_readNumbers 19 = .ok (.iload_n 1, 1) := by decide +kernel
theorem dX4_readNumbers_20 : decode cX4_readNumbers 20 = .ok (.iaload, 1) := by decide +kernel
theorem dX4_readNumbers_21 : decode cX4_readNumbers 21 = .ok (.istore_n 2, 1) := by decide +kernel
theorem dX4_readNumbers_22 : decode cX4_readNumbers 22 = .ok (.getstatic 49, 3) := by decide +kernel
theorem dX4_readNumbers_25 : decode cX4_readNumbers 25 = .ok (.iload_n 1, 1) := by decide +kernel
theorem dX4_readNumbers_26 : decode cX4_readNumbers 26 = .ok (.iconst 1, 1) := by decide +kernel
theorem dX4_readNumbers_27 : decode cX4_readNumbers 27 = .ok (.iadd, 1) := by decide +kernel
theorem dX4_readNumbers_28 : decode cX4_readNumbers 28 = .ok (.iaload, 1) := by decide +kernel
theorem dX4_readNumbers_29 : decode cX4_readNumbers 29 = .ok (.iload_n 2, 1) := by decide +kernel
theorem dX4_readNumbers_30 : decode cX4_readNumbers 30 = .ok (.isub, 1) := by decide +kernel
theorem dX4_readNumbers_31 : decode cX4_readNumbers 31 = .ok (.istore_n 3, 1) := by decide +kernel
theorem dX4_readNumbers_32 : decode cX4_readNumbers 32 = .ok (.iconst 0, 1) := by decide +kernel
theorem dX4_readNumbers_33 : decode cX4_readNumbers 33 = .ok (.istore 4, 2) := by decide +kernel
theorem dX4_readNumbers_35 : decode cX4_readNumbers 35 = .ok (.iload 4, 2) := by decide +kernel
theorem dX4_readNumbers_37 : decode cX4_readNumbers 37 = .ok (.iload_n 3, 1) := by decide +kernel
theorem dX4_readNumbers_38 : decode cX4_readNumbers 38 = .ok (.if_icmp .ge 103, 3) := by decide +kernel
theorem dX4_readNumbers_41 : decode cX4_readNumbers 41 = .ok (.iload 4, 2) := by decide +kernel
theorem dX4_readNumbers_43 : decode cX4_readNumbers 43 = .ok (.aload_n 0, 1) := by decide +kernel
theorem dX4_readNumbers_44 : decode cX4_readNumbers 44 = .ok (.getfield 15, 3) := by decide +kernel
theorem dX4_readNumbers_47 : decode cX4_readNumbers 47 = .ok (.arraylength, 1) := by decide +kernel
theorem dX4_readNumbers_48 : decode cX4_readNumbers 48 = .ok (.if_icmp .ge 93, 3) := by decide +kernel
theorem dX4_readNumbers_51 : decode cX4_readNumbers 51 = .ok (.aload_n 0, 1) := by decide +kernel
theorem dX4_readNumbers_52 : decode cX4_readNumbers 52 = .ok (.invokevirtual 52, 3) := by decide +kernel
theorem dX4_readNumbers_55 : decode cX4_readNumbers 55 = .ok (.istore 5, 2) := by decide +kernel
theorem dX4_readNumbers_57 : decode cX4_readNumbers 57 = .ok (.iload 5, 2) := by decide +kernel
theorem dX4_readNumbers_59 : decode cX4_readNumbers 59 = .ok (.getstatic 55, 3) := by decide +kernel
theorem dX4_readNumbers_62 : decode cX4_readNumbers 62 = .ok (.iload_n 2, 1) := by decide +kernel
theorem dX4_readNumbers_63 : decode cX4_readNumbers 63 = .ok (.iload 4, 2) := by decide +kernel
theorem dX4_readNumbers_65 : decode cX4_readNumbers 65 = .ok (.iadd, 1) := by decide +kernel
theorem dX4_readNumbers_66 : decode cX4_readNumbers 66 = .ok (.iaload, 1) := by decide +kernel
theorem dX4_readNumbers_67 : decode cX4_readNumbers 67 = .ok (.if_icmp .lt 16, 3) := by decide +kernel
theorem dX4_readNumbers_70 : decode cX4_readNumbers 70 = .ok (.iload 5, 2) := by decide +kernel
theorem dX4_readNumbers_72 : decode cX4_readNumbers 72 = .ok (.getstatic 58, 3) := by decide +kernel
theorem dX4_readNumbers_75 : decode cX4_readNumbers 75 = .ok (.iload_n 2, 1) := by decide +kernel
theorem dX4_readNumbers_76 : decode cX4_readNumbers 76 = .ok (.iload 4, 2) := by decide +kernel
theorem dX4_readNumbers_78 : decode cX4_readNumbers 78 = .ok (.iadd, 1) := by decide +kernel
theorem dX4_readNumbers_79 : decode cX4_readNumbers 79 = .ok (.iaload, 1) := by decide +kernel
theorem dX4_readNumbers_80 : decode cX4_readNumbers 80 = .ok (.if_icmp .le 5, 3) := by decide +kernel
theorem dX4_readNumbers_83 : decode cX4_readNumbers 83 = .ok (.iconst 0, 1) := by decide +kernel
theorem dX4_readNumbers_84 : decode cX4_readNumbers 84 = .ok (.ireturn, 1) := by decide +kernel
theorem dX4_readNumbers_85 : decode cX4_readNumbers 85 = .ok (.aload_n 0, 1) := by decide +kernel
theorem dX4_readNumbers_86 : decode cX4_readNumbers 86 = .ok (.getfield 15, 3) := by decide +kernel
theorem dX4_readNumbers_89 : decode cX4_readNumbers 89 = .ok (.iload 4, 2) := by decide +kernel
theorem dX4_readNumbers_91 : decode cX4_readNumbers 91 = .ok (.iload 5, 2) := by decide +kernel
theorem dX4_readNumbers_93 : decode cX4_readNumbers 93 = .ok (.iastore, 1) := by decide +kernel
theorem dX4_readNumbers_94 : decode cX4_readNumbers 94 = .ok (.aload_n 0, 1) := by decide +kernel
theorem dX4_readNumbers_95 : decode cX4_readNumbers 95 = .ok (.getfield 9, 3) := by decide +kernel
theorem dX4_readNumbers_98 : decode cX4_readNumbers 98 = .ok (.aload_n 0, 1) := by decide +kernel
theorem dX4_readNumbers_99 : decode cX4_readNumbers 99 = .ok (.getfield 19, 3) := by decide +kernel
theorem dX4_readNumbers_102 : decode cX4_readNumbers 102 = .ok (.invokevirtual 34, 3) := by decide +kernel
theorem dX4_readNumbers_105 : decode cX4_readNumbers 105 = .ok (.iload 4, 2) := by decide +kernel
theorem dX4_readNumbers_107 : decode cX4_readNumbers 107 = .ok (.iconst 1, 1) := by decide +kernel
theorem dX4_readNumbers_108 : decode cX4_readNumbers 108 = .ok (.iadd, 1) := by decide +kernel
theorem dX4_readNumbers_109 : decode cX4_readNumbers 109 = .ok (.iload_n 3, 1) := by decide +kernel
theorem dX4_readNumbers_110 : decode cX4_readNumbers 110 = .ok (.if_icmp .ge 8, 3) := by decide +kernel
theorem dX4_readNumbers_113 : decode cX4_readNumbers 113 = .ok (.bipush 44, 2) := by decide +kernel
theorem dX4_readNumbers_115 : decode cX4_readNumbers 115 = .ok (.goto 5, 3) := by decide +kernel
theorem dX4_readNumbers_118 : decode cX4_readNumbers 118 = .ok (.bipush 59, 2) := by decide +kernel
theorem dX4_readNumbers_120 : decode cX4_readNumbers 120 = .ok (.if_icmp .eq 5, 3) := by decide +kernel
theorem dX4_readNumbers_123 : decode cX4_readNumbers 123 = .ok (.iconst 0, 1) := by decide +kernel
theorem dX4_readNumbers_124 : decode cX4_readNumbers 124 = .ok (.ireturn, 1) := by decide +kernel
theorem dX4_readNumbers_125 : decode cX4_readNumbers 125 = .ok (.aload_n 0, 1) := by decide +kernel
theorem dX4_readNumbers_126 : decode cX4_readNumbers 126 = .ok (.dup, 1) := by decide +kernel
theorem dX4_readNumbers_127 : decode cX4_readNumbers 127 = .ok (.getfield 19, 3) := by decide +kernel
theorem dX4_readNumbers_130 : decode cX4_readNumbers 130 = .ok (.iconst 1, 1) := by decide +kernel
theorem dX4_readNumbers_131 : decode cX4_readNumbers 131 = .ok (.iadd, 1) := by decide +kernel
theorem dX4_readNumbers_132 : decode cX4_readNumbers 132 = .ok (.putfield 19, 3) := by decide +kernel
theorem dX4_readNumbers_135 : decode cX4_readNumbers 135 = .ok (.iinc 4 1, 3) := by decide +kernel
theorem dX4_readNumbers_138 : decode cX4_readNumbers 138 = .ok (.goto (-103), 3) := by decide +kernel
theorem dX4_readNumbers_141 : decode cX4_readNumbers 141 = .ok (.iconst 1, 1) := by decide +kernel
theorem dX4_readNumbers_142 : decode cX4_readNumbers 142 = .ok (.ireturn, 1) := by decide +kernel
theorem dX4_readFigures_0 : decode cX4_readFigures 0 = .ok (.bipush (-4), 2) := by decide +kernel
theorem dX4_readFigures_2 : decode cX4_readFigures 2 = .ok (.istore_n 1, 1) := by decide +kernel
theorem dX4_readFigures_3 : decode cX4_readFigures 3 = .ok (.iconst 0, 1) := by decide +kernel
theorem dX4_readFigures_4 : decode cX4_readFigures 4 = .ok (.istore_n 2, 1) := by decide +kernel
theorem dX4_readFigures_5 : decode cX4_readFigures 5 = .ok (.iload_n 2, 1) := by decide +kernel
theorem dX4_readFigures_6 : decode cX4_readFigures 6 = .ok (.iconst 3, 1) := by decide +kernel
theorem dX4_readFigures_7 : decode cX4_readFigures 7 = .ok (.if_icmp .ge 64, 3) := by decide +kernel
theorem dX4_readFigures_10 : decode cX4_readFigures 10 = .ok (.aload_n 0, 1) := by decide +kernel
theorem dX4_readFigures_11 : decode cX4_readFigures 11 = .ok (.getfield 9, 3) := by decide +kernel
theorem dX4_readFigures_14 : decode cX4_readFigures 14 = .ok (.aload_n 0, 1) := by decide +kernel
theorem dX4_readFigures_15 : decode cX4_readFigures 15 = .ok (.getfield 19, 3) := by decide +kernel
theorem dX4_readFigures_18 : decode cX4_readFigures 18 = .ok (.invokevirtual 34, 3) := by decide +kernel
theorem dX4_readFigures_21 : decode cX4_readFigures 21 = .ok (.istore_n 3, 1) := by decide +kernel
theorem dX4_readFigures_22 : decode cX4_readFigures 22 = .ok (.iload_n 3, 1) := by decide +kernel
theorem dX4_readFigures_23 : decode cX4_readFigures 23 = .ok (.bipush 48, 2) := by decide +kernel
theorem dX4_readFigures_25 : decode cX4_readFigures 25 = .ok (.if_icmp .lt 46, 3) := by decide +kernel
theorem dX4_readFigures_28 : decode cX4_readFigures 28 = .ok (.iload_n 3, 1) := by decide +kernel
theorem dX4_readFigures_29 : decode cX4_readFigures 29 = .ok (.bipush 57, 2) := by decide +kernel
theorem dX4_readFigures_31 : decode cX4_readFigures 31 = .ok (.if_icmp .le 6, 3) := by decide +kernel
theorem dX4_readFigures_34 : decode cX4_readFigures 34 = .ok (.goto 37, 3) := by decide +kernel
theorem dX4_readFigures_37 : decode cX4_readFigures 37 = .ok (.iload_n 2, 1) := by decide +kernel
theorem dX4_readFigures_38 : decode cX4_readFigures 38 = .ok (.ifCond .ne 7, 3) := by decide +kernel
theorem dX4_readFigures_41 : decode cX4_readFigures 41 = .ok (.iconst 0, 1) := by decide +kernel
theorem dX4_readFigures_42 : decode cX4_readFigures 42 = .ok (.goto 7, 3) := by decide +kernel
theorem dX4_readFigures_45 : decode cX4_readFigures 45 = .ok (.iload_n 1, 1) := by decide +kernel
theorem dX4_readFigures_46 : decode cX4_readFigures 46 = .ok (.bipush 10, 2) := by decide +kernel
theorem dX4_readFigures_48 : decode cX4_readFigures 48 = .ok (.imul, 1) := by decide +kernel
theorem dX4_readFigures_49 : decode cX4_readFigures 49 = .ok (.iload_n 3, 1) := by decide +kernel
theorem dX4_readFigures_50 : decode cX4_readFigures 50 = .ok (.iadd, 1) := by decide +kernel
theorem dX4_readFigures_51 : decode cX4_readFigures 51 = .ok (.bipush 48, 2) := by decide +kernel
theorem dX4_readFigures_53 : decode cX4_readFigures 53 = .ok (.isub, 1) := by decide +kernel
theorem dX4_readFigures_54 : decode cX4_readFigures 54 = .ok (.istore_n 1, 1) := by decide +kernel
theorem dX4_readFigures_55 : decode cX4_readFigures 55 = .ok (.aload_n 0, 1) := by decide +kernel
theorem dX4_readFigures_56 : decode cX4_readFigures 56 = .ok (.dup, 1) := by decide +kernel
theorem dX4_readFigures_57 : decode cX4_readFigures 57 = .ok (.getfield 19, 3) := by decide +kernel
theorem dX4_readFigures_60 : decode cX4_readFigures 60 = .ok (.iconst 1, 1) := by decide +kernel
theorem dX4_readFigures_61 : decode cX4_readFigures 61 = .ok (.iadd, 1) := by decide +kernel
theorem dX4_readFigures_62 : decode cX4_readFigures 62 = .ok (.putfield 19, 3) := by decide +kernel
theorem dX4_readFigures_65 : decode cX4_readFigures 65 = .ok (.iinc 2 1, 3) := by decide +kernel
theorem dX4_readFigures_68 : decode cX4_readFigures 68 = .ok (.goto (-63), 3) := by decide +kernel
theorem dX4_readFigures_71 : decode cX4_readFigures 71 = .ok (.iload_n 1, 1) := by decide +kernel
theorem dX4_readFigures_72 : decode cX4_readFigures 72 = .ok (.ireturn, 1) := by decide +kernel
theorem dX4_put_0 : decode cX4_put 0 = .ok (.iload_n 1, 1) := by decide +kernel
theorem dX4_put_1 : decode cX4_put 1 = .ok (.tableswitch 94 0 4 #[35, 46, 55, 72, 83], 35) := by decide +kernel
theorem dX4_put_36 : decode cX4_put 36 = .ok (.aload_n 2, 1) := by decide +kernel
theorem dX4_put_37 : decode cX4_put 37 = .ok (.aload_n 0, 1) := by decide +kernel
theorem dX4_put_38 : decode cX4_put 38 = .ok (.getfield 15, 3) := by decide +kernel
theorem dX4_put_41 : decode cX4_put 41 = .ok (.iconst 0, 1) := by decide +kernel
theorem dX4_put_42 : decode cX4_put 42 = .ok (.iaload, 1) := by decide +kernel
theorem dX4_put_43 : decode cX4_put 43 = .ok (.invokevirtual 61, 3) := by decide +kernel
theorem dX4_put_46 : decode cX4_put 46 = .ok (.ireturn, 1) := by decide +kernel
theorem dX4_put_47 : decode cX4_put 47 = .ok (.aload_n 2, 1) := by decide +kernel
theorem dX4_put_48 : decode cX4_put 48 = .ok (.aload_n 0, 1) := by decide +kernel
theorem dX4_put_49 : decode cX4_put 49 = .ok (.getfield 15, 3) := by decide +kernel
theorem dX4_put_52 : decode cX4_put 52 = .ok (.invokevirtual 64, 3) := by decide +kernel
theorem dX4_put_55 : decode cX4_put 55 = .ok (.ireturn, 1) := by decide +kernel
theorem dX4_put_56 : decode cX4_put 56 = .ok (.aload_n 2, 1) := by decide +kernel
theorem dX4_put_57 : decode cX4_put 57 = .ok (.aload_n 0, 1) := by decide +kernel
theorem dX4_put_58 : decode cX4_put 58 = .ok (.getfield 15, 3) := by decide +kernel
theorem dX4_put_61 : decode cX4_put 61 = .ok (.iconst 0, 1) := by decide +kernel
theorem dX4_put_62 : decode cX4_put 62 = .ok (.iaload, 1) := by decide +kernel
theorem dX4_put_63 : decode cX4_put 63 = .ok (.aload_n 0, 1) := by decide +kernel
theorem dX4_put_64 : decode cX4_put 64 = .ok (.getfield 15, 3) := by decide +kernel
theorem dX4_put_67 : decode cX4_put 67 = .ok (.iconst 1, 1) := by decide +kernel
theorem dX4_put_68 : decode cX4_put 68 = .ok (.iaload, 1) := by decide +kernel
theorem dX4_put_69 : decode cX4_put 69 = .ok (.invokevirtual 68, 3) := by decide +kernel
theorem dX4_put_72 : decode cX4_put 72 = .ok (.ireturn, 1) := by decide +kernel
theorem dX4_put_73 : decode cX4_put 73 = .ok (.aload_n 2, 1) := by decide +kernel
theorem dX4_put_74 : decode cX4_put 74 = .ok (.aload_n 0, 1) := by decide +kernel
theorem dX4_put_75 : decode cX4_put 75 = .ok (.getfield 15, 3) := by decide +kernel
theorem dX4_put_78 : decode cX4_put 78 = .ok (.iconst 0, 1) := by decide +kernel
theorem dX4_put_79 : decode cX4_put 79 = .ok (.iaload, 1) := by decide +kernel
theorem dX4_put_80 : decode cX4_put 80 = .ok (.invokevirtual 72, 3) := by decide +kernel
theorem dX4_put_83 : decode cX4_put 83 = .ok (.ireturn, 1) := by decide +kernel
theorem dX4_put_84 : decode cX4_put 84 = .ok (.aload_n 2, 1) := by decide +kernel
theorem dX4_put_85 : decode cX4_put 85 = .ok (.aload_n 0, 1) := by decide +kernel
theorem dX4_put_86 : decode cX4_put 86 = .ok (.getfield 15, 3) := by decide +kernel
theorem dX4_put_89 : decode cX4_put 89 = .ok (.iconst 0, 1) := by decide +kernel
theorem dX4_put_90 : decode cX4_put 90 = .ok (.iaload, 1) := by decide +kernel
theorem dX4_put_91 : decode cX4_put 91 = .ok (.invokevirtual 75, 3) := by decide +kernel
theorem dX4_put_94 : decode cX4_put 94 = .ok (.ireturn, 1) := by decide +kernel
theorem dX4_put_95 : decode cX4_put 95 = .ok (.aload_n 2, 1) := by decide +kernel
theorem dX4_put_96 : decode cX4_put 96 = .ok (.aload_n 0, 1) := by decide +kernel
theorem dX4_put_97 : decode cX4_put 97 = .ok (.getfield 15, 3) := by decide +kernel
theorem dX4_put_100 : decode cX4_put 100 = .ok (.iconst 0, 1) := by decide +kernel
theorem dX4_put_101 : decode cX4_put 101 = .ok (.iaload, 1) := by decide +kernel
theorem dX4_put_102 : decode cX4_put 102 = .ok (.invokevirtual 78, 3) := by decide +kernel
theorem dX4_put_105 : decode cX4_put 105 = .ok (.ireturn, 1) := by decide +kernel
theorem dX5_init_0 : decode cX5_init 0 = .ok (.aload_n 0, 1) := by decide +kernel
theorem dX5_init_1 : decode cX5_init 1 = .ok (.invokespecial 3, 3) := by decide +kernel
theorem dX5_init_4 : decode cX5_init 4 = .ok (.aload_n 0, 1) := by decide +kernel
theorem dX5_init_5 : decode cX5_init 5 = .ok (.sipush 400, 3) := by decide +kernel
theorem dX5_init_8 : decode cX5_init 8 = .ok (.newarray .byte, 2) := by decide +kernel
theorem dX5_init_10 : decode cX5_init 10 = .ok (.putfield 9, 3) := by decide +kernel
theorem dX5_init_13 : decode cX5_init 13 = .ok (.aload_n 0, 1) := by decide +kernel
theorem dX5_init_14 : decode cX5_init 14 = .ok (.iconst 0, 1) := by decide +kernel
theorem dX5_init_15 : decode cX5_init 15 = .ok (.putfield 15, 3) := by decide +kernel
theorem dX5_init_18 : decode cX5_init 18 = .ok (.return_, 1) := by decide +kernel
theorem dX5_length_0 : decode cX5_length 0 = .ok (.aload_n 0, 1) := by decide +kernel
theorem dX5_length_1 : decode cX5_length 1 = .ok (.getfield 15, 3) := by decide +kernel
theorem dX5_length_4 : decode cX5_length 4 = .ok (.ireturn, 1) := by decide +kernel
theorem dX5_clear_0 : decode cX5_clear 0 = .ok (.aload_n 0, 1) := by decide +kernel
theorem dX5_clear_1 : decode cX5_clear 1 = .ok (.iconst 0, 1) := by decide +kernel
theorem dX5_clear_2 : decode cX5_clear 2 = .ok (.putfield 15, 3) := by decide +kernel
theorem dX5_clear_5 : decode cX5_clear 5 = .ok (.return_, 1) := by decide +kernel
theorem dX5_append_0 : decode cX5_append 0 = .ok (.iload_n 1, 1) := by decide +kernel
theorem dX5_append_1 : decode cX5_append 1 = .ok (.ifCond .lt 17, 3) := by decide +kernel
theorem dX5_append_4 : decode cX5_append 4 = .ok (.iload_n 1, 1) := by decide +kernel
theorem dX5_append_5 : decode cX5_append 5 = .ok (.aload_n 0, 1) := by decide +kernel
theorem dX5_append_6 : decode cX5_append 6 = .ok (.getfield 9, 3) := by decide +kernel
theorem dX5_append_9 : decode cX5_append 9 = .ok (.arraylength, 1) := by decide +kernel
theorem dX5_append_10 : decode cX5_append 10 = .ok (.aload_n 0, 1) := by decide +kernel
theorem dX5_append_11 : decode cX5_append 11 = .ok (.getfield 15, 3) := by decide +kernel
theorem dX5_append_14 : decode cX5_append 14 = .ok (.isub, 1) := by decide +kernel
theorem dX5_append_15 : decode cX5_append 15 = .ok (.if_icmp .le 5, 3) := by decide +kernel
theorem dX5_append_18 : decode cX5_append 18 = .ok (.iconst 0, 1) := by decide +kernel
theorem dX5_append_19 : decode cX5_append 19 = .ok (.ireturn, 1) := by decide +kernel
theorem dX5_append_20 : decode cX5_append 20 = .ok (.iload_n 1, 1) := by decide +kernel
theorem dX5_append_21 : decode cX5_append 21 = .ok (.iconst 1, 1) := by decide +kernel
theorem dX5_append_22 : decode cX5_append 22 = .ok (.isub, 1) := by decide +kernel
theorem dX5_append_23 : decode cX5_append 23 = .ok (.istore 4, 2) := by decide +kernel
theorem dX5_append_25 : decode cX5_append 25 = .ok (.iload 4, 2) := by decide +kernel
theorem dX5_append_27 : decode cX5_append 27 = .ok (.ifCond .lt 37, 3) := by decide +kernel
theorem dX5_append_30 : decode cX5_append 30 = .ok (.aload_n 0, 1) := by decide +kernel
theorem dX5_append_31 : decode cX5_append 31 = .ok (.getfield 9, 3) := by decide +kernel
theorem dX5_append_34 : decode cX5_append 34 = .ok (.aload_n 0, 1) := by decide +kernel
theorem dX5_append_35 : decode cX5_append 35 = .ok (.getfield 15, 3) := by decide +kernel
theorem dX5_append_38 : decode cX5_append 38 = .ok (.lload_n 2, 1) := by decide +kernel
theorem dX5_append_39 : decode cX5_append 39 = .ok (.bipush 8, 2) := by decide +kernel
theorem dX5_append_41 : decode cX5_append 41 = .ok (.iload 4, 2) := by decide +kernel
theorem dX5_append_43 : decode cX5_append 43 = .ok (.imul, 1) := by decide +kernel
theorem dX5_append_44 : decode cX5_append 44 = .ok (.lushr, 1) := by decide +kernel
theorem dX5_append_45 : decode cX5_append 45 = .ok (.l2i, 1) := by decide +kernel
theorem dX5_append_46 : decode cX5_append 46 = .ok (.i2b, 1) := by decide +kernel
theorem dX5_append_47 : decode cX5_append 47 = .ok (.bastore, 1) := by decide +kernel
theorem dX5_append_48 : decode cX5_append 48 = .ok (.aload_n 0, 1) := by decide +kernel
theorem dX5_append_49 : decode cX5_append 49 = .ok (.dup, 1) := by decide +kernel
theorem dX5_append_50 : decode cX5_append 50 = .ok (.getfield 15, 3) := by decide +kernel
theorem dX5_append_53 : decode cX5_append 53 = .ok (.iconst 1, 1) := by decide +kernel
theorem dX5_append_54 : decode cX5_append 54 = .ok (.iadd, 1) := by decide +kernel
theorem dX5_append_55 : decode cX5_append 55 = .ok (.putfield 15, 3) := by decide +kernel
theorem dX5_append_58 : decode cX5_append 58 = .ok (.iinc 4 (-1), 3) := by decide +kernel
theorem dX5_append_61 : decode cX5_append 61 = .ok (.goto (-36), 3) := by decide +kernel
theorem dX5_append_64 : decode cX5_append 64 = .ok (.iconst 1, 1) := by decide +kernel
theorem dX5_append_65 : decode cX5_append 65 = .ok (.ireturn, 1) := by decide +kernel
theorem dX5_byteAt_0 : decode cX5_byteAt 0 = .ok (.iload_n 1, 1) := by decide +kernel
theorem dX5_byteAt_1 : decode cX5_byteAt 1 = .ok (.ifCond .lt 24, 3) := by decide +kernel
theorem dX5_byteAt_4 : decode cX5_byteAt 4 = .ok (.iload_n 1, 1) := by decide +kernel
theorem dX5_byteAt_5 : decode cX5_byteAt 5 = .ok (.aload_n 0, 1) := by decide +kernel
theorem dX5_byteAt_6 : decode cX5_byteAt 6 = .ok (.getfield 15, 3) := by decide +kernel
theorem dX5_byteAt_9 : decode cX5_byteAt 9 = .ok (.if_icmp .ge 16, 3) := by decide +kernel
theorem dX5_byteAt_12 : decode cX5_byteAt 12 = .ok (.aload_n 0, 1) := by decide +kernel
theorem dX5_byteAt_13 : decode cX5_byteAt 13 = .ok (.getfield 9, 3) := by decide +kernel
theorem dX5_byteAt_16 : decode cX5_byteAt 16 = .ok (.iload_n 1, 1) := by decide +kernel
theorem dX5_byteAt_17 : decode cX5_byteAt 17 = .ok (.baload, 1) := by decide +kernel
theorem dX5_byteAt_18 : decode cX5_byteAt 18 = .ok (.sipush 255, 3) := by decide +kernel
theorem dX5_byteAt_21 : decode cX5_byteAt 21 = .ok (.iand, 1) := by decide +kernel
theorem dX5_byteAt_22 : decode cX5_byteAt 22 = .ok (.goto 5, 3) := by decide +kernel
theorem dX5_byteAt_25 : decode cX5_byteAt 25 = .ok (.bipush (-4), 2) := by decide +kernel
theorem dX5_byteAt_27 : decode cX5_byteAt 27 = .ok (.ireturn, 1) := by decide +kernel
theorem dJ6_bitCount_0f7a4_0 : decode cJ6_bitCount_0f7a4 0 = .ok (.iload_n 0, 1) := by decide +kernel
theorem dJ6_bitCount_0f7a4_1 : decode cJ6_bitCount_0f7a4 1 = .ok (.iload_n 0, 1) := by decide +kernel
theorem dJ6_bitCount_0f7a4_2 : decode cJ6_bitCount_0f7a4 2 = .ok (.iconst 1, 1) := by decide +kernel
theorem dJ6_bitCount_0f7a4_3 : decode cJ6_bitCount_0f7a4 3 = .ok (.iushr, 1) := by decide +kernel
theorem dJ6_bitCount_0f7a4_4 : decode cJ6_bitCount_0f7a4 4 = .ok (.ldc_w 265, 3) := by decide +kernel
theorem dJ6_bitCount_0f7a4_7 : decode cJ6_bitCount_0f7a4 7 = .ok (.iand, 1) := by decide +kernel
theorem dJ6_bitCount_0f7a4_8 : decode cJ6_bitCount_0f7a4 8 = .ok (.isub, 1) := by decide +kernel
theorem dJ6_bitCount_0f7a4_9 : decode cJ6_bitCount_0f7a4 9 = .ok (.istore_n 0, 1) := by decide +kernel
theorem dJ6_bitCount_0f7a4_10 : decode cJ6_bitCount_0f7a4 10 = .ok (.iload_n 0, 1) := by decide +kernel
theorem dJ6_bitCount_0f7a4_11 : decode cJ6_bitCount_0f7a4 11 = .ok (.ldc_w 266, 3) := by decide +kernel
theorem dJ6_bitCount_0f7a4_14 : decode cJ6_bitCount_0f7a4 14 = .ok (.iand, 1) := by decide +kernel
theorem dJ6_bitCount_0f7a4_15 : decode cJ6_bitCount_0f7a4 15 = .ok (.iload_n 0, 1) := by decide +kernel
theorem dJ6_bitCount_0f7a4_16 : decode cJ6_bitCount_0f7a4 16 = .ok (.iconst 2, 1) := by decide +kernel
theorem dJ6_bitCount_0f7a4_17 : decode cJ6_bitCount_0f7a4 17 = .ok (.iushr, 1) := by decide +kernel
theorem dJ6_bitCount_0f7a4_18 : decode cJ6_bitCount_0f7a4 18 = .ok (.ldc_w 266, 3) := by decide +kernel
theorem dJ6_bitCount_0f7a4_21 : decode cJ6_bitCount_0f7a4 21 = .ok (.iand, 1) := by decide +kernel
theorem dJ6_bitCount_0f7a4_22 : decode cJ6_bitCount_0f7a4 22 = .ok (.iadd, 1) := by decide +kernel
theorem dJ6_bitCount_0f7a4_23 : decode cJ6_bitCount_0f7a4 23 = .ok (.istore_n 0, 1) := by decide +kernel
theorem dJ6_bitCount_0f7a4_24 : decode cJ6_bitCount_0f7a4 24 = .ok (.iload_n 0, 1) := by decide +kernel
theorem dJ6_bitCount_0f7a4_25 : decode cJ6_bitCount_0f7a4 25 = .ok (.iload_n 0, 1) := by decide +kernel
theorem dJ6_bitCount_0f7a4_26 : decode cJ6_bitCount_0f7a4 26 = .ok (.iconst 4, 1) := by decide +kernel
theorem dJ6_bitCount_0f7a4_27 : decode cJ6_bitCount_0f7a4 27 = .ok (.iushr, 1) := by decide +kernel
theorem dJ6_bitCount_0f7a4_28 : decode cJ6_bitCount_0f7a4 28 = .ok (.iadd, 1) := by decide +kernel
theorem dJ6_bitCount_0f7a4_29 : decode cJ6_bitCount_0f7a4 29 = .ok (.ldc_w 267, 3) := by decide +kernel
theorem dJ6_bitCount_0f7a4_32 : decode cJ6_bitCount_0f7a4 32 = .ok (.iand, 1) := by decide +kernel
theorem dJ6_bitCount_0f7a4_33 : decode cJ6_bitCount_0f7a4 33 = .ok (.istore_n 0, 1) := by decide +kernel
theorem dJ6_bitCount_0f7a4_34 : decode cJ6_bitCount_0f7a4 34 = .ok (.iload_n 0, 1) := by decide +kernel
theorem dJ6_bitCount_0f7a4_35 : decode cJ6_bitCount_0f7a4 35 = .ok (.iload_n 0, 1) := by decide +kernel
theorem dJ6_bitCount_0f7a4_36 : decode cJ6_bitCount_0f7a4 36 = .ok (.bipush 8, 2) := by decide +kernel
theorem dJ6_bitCount_0f7a4_38 : decode cJ6_bitCount_0f7a4 38 = .ok (.iushr, 1) := by decide +kernel
theorem dJ6_bitCount_0f7a4_39 : decode cJ6_bitCount_0f7a4 39 = .ok (.iadd, 1) := by decide +kernel
theorem dJ6_bitCount_0f7a4_40 : decode cJ6_bitCount_0f7a4 40 = .ok (.istore_n 0, 1) := by decide +kernel
theorem dJ6_bitCount_0f7a4_41 : decode cJ6_bitCount_0f7a4 41 = .ok (.iload_n 0, 1) := by decide +kernel
theorem dJ6_bitCount_0f7a4_42 : decode cJ6_bitCount_0f7a4 42 = .ok (.iload_n 0, 1) := by decide +kernel
theorem dJ6_bitCount_0f7a4_43 : decode cJ6_bitCount_0f7a4 43 = .ok (.bipush 16, 2) := by decide +kernel
theorem dJ6_bitCount_0f7a4_45 : decode cJ6_bitCount_0f7a4 45 = .ok (.iushr, 1) := by decide +kernel
theorem dJ6_bitCount_0f7a4_46 : decode cJ6_bitCount_0f7a4 46 = .ok (.iadd, 1) := by decide +kernel
theorem dJ6_bitCount_0f7a4_47 : decode cJ6_bitCount_0f7a4 47 = .ok (.istore_n 0, 1) := by decide +kernel
theorem dJ6_bitCount_0f7a4_48 : decode cJ6_bitCount_0f7a4 48 = .ok (.iload_n 0, 1) := by decide +kernel
theorem dJ6_bitCount_0f7a4_49 : decode cJ6_bitCount_0f7a4 49 = .ok (.bipush 63, 2) := by decide +kernel
theorem dJ6_bitCount_0f7a4_51 : decode cJ6_bitCount_0f7a4 51 = .ok (.iand, 1) := by decide +kernel
theorem dJ6_bitCount_0f7a4_52 : decode cJ6_bitCount_0f7a4 52 = .ok (.ireturn, 1) := by decide +kernel
theorem dJ9_abs_0f7a4_0 : decode cJ9_abs_0f7a4 0 = .ok (.iload_n 0, 1) := by decide +kernel
theorem dJ9_abs_0f7a4_1 : decode cJ9_abs_0f7a4 1 = .ok (.ifCond .ge 8, 3) := by decide +kernel
theorem dJ9_abs_0f7a4_4 : decode cJ9_abs_0f7a4 4 = .ok (.iload_n 0, 1) := by decide +kernel
theorem dJ9_abs_0f7a4_5 : decode cJ9_abs_0f7a4 5 = .ok (.ineg, 1) := by decide +kernel
theorem dJ9_abs_0f7a4_6 : decode cJ9_abs_0f7a4 6 = .ok (.goto 4, 3) := by decide +kernel
theorem dJ9_abs_0f7a4_9 : decode cJ9_abs_0f7a4 9 = .ok (.iload_n 0, 1) := by decide +kernel
theorem dJ9_abs_0f7a4_10 : decode cJ9_abs_0f7a4 10 = .ok (.ireturn, 1) := by decide +kernel
theorem dJ9_min_7cf53_0 : decode cJ9_min_7cf53 0 = .ok (.iload_n 0, 1) := by decide +kernel
theorem dJ9_min_7cf53_1 : decode cJ9_min_7cf53 1 = .ok (.iload_n 1, 1) := by decide +kernel
theorem dJ9_min_7cf53_2 : decode cJ9_min_7cf53 2 = .ok (.if_icmp .gt 7, 3) := by decide +kernel
theorem dJ9_min_7cf53_5 : decode cJ9_min_7cf53 5 = .ok (.iload_n 0, 1) := by decide +kernel
theorem dJ9_min_7cf53_6 : decode cJ9_min_7cf53 6 = .ok (.goto 4, 3) := by decide +kernel
theorem dJ9_min_7cf53_9 : decode cJ9_min_7cf53 9 = .ok (.iload_n 1, 1) := by decide +kernel
theorem dJ9_min_7cf53_10 : decode cJ9_min_7cf53 10 = .ok (.ireturn, 1) := by decide +kernel
theorem dJ7_fill_d0a16_0 : decode cJ7_fill_d0a16 0 = .ok (.iconst 0, 1) := by decide +kernel
theorem dJ7_fill_d0a16_1 : decode cJ7_fill_d0a16 1 = .ok (.istore_n 3, 1) := by decide +kernel
theorem dJ7_fill_d0a16_2 : decode cJ7_fill_d0a16 2 = .ok (.aload_n 0, 1) := by decide +kernel
theorem dJ7_fill_d0a16_3 : decode cJ7_fill_d0a16 3 = .ok (.arraylength, 1) := by decide +kernel
theorem dJ7_fill_d0a16_4 : decode cJ7_fill_d0a16 4 = .ok (.istore 4, 2) := by decide +kernel
theorem dJ7_fill_d0a16_6 : decode cJ7_fill_d0a16 6 = .ok (.iload_n 3, 1) := by decide +kernel
theorem dJ7_fill_d0a16_7 : decode cJ7_fill_d0a16 7 = .ok (.iload 4, 2) := by decide +kernel
theorem dJ7_fill_d0a16_9 : decode cJ7_fill_d0a16 9 = .ok (.if_icmp .ge 13, 3) := by decide +kernel
theorem dJ7_fill_d0a16_12 : decode cJ7_fill_d0a16 12 = .ok (.aload_n 0, 1) := by decide +kernel
theorem dJ7_fill_d0a16_13 : decode cJ7_fill_d0a16 13 = .ok (.iload_n 3, 1) := by decide +kernel
theorem dJ7_fill_d0a16_14 : decode cJ7_fill_d0a16 14 = .ok (.lload_n 1, 1) := by decide +kernel
theorem dJ7_fill_d0a16_15 : decode cJ7_fill_d0a16 15 = .ok (.lastore, 1) := by decide +kernel
theorem dJ7_fill_d0a16_16 : decode cJ7_fill_d0a16 16 = .ok (.iinc 3 1, 3) := by decide +kernel
theorem dJ7_fill_d0a16_19 : decode cJ7_fill_d0a16 19 = .ok (.goto (-13), 3) := by decide +kernel
theorem dJ7_fill_d0a16_22 : decode cJ7_fill_d0a16 22 = .ok (.return_, 1) := by decide +kernel
theorem dJ7_fill_53178_0 : decode cJ7_fill_53178 0 = .ok (.iconst 0, 1) := by decide +kernel
theorem dJ7_fill_53178_1 : decode cJ7_fill_53178 1 = .ok (.istore_n 2, 1) := by decide +kernel
theorem dJ7_fill_53178_2 : decode cJ7_fill_53178 2 = .ok (.aload_n 0, 1) := by decide +kernel
theorem dJ7_fill_53178_3 : decode cJ7_fill_53178 3 = .ok (.arraylength, 1) := by decide +kernel
theorem dJ7_fill_53178_4 : decode cJ7_fill_53178 4 = .ok (.istore_n 3, 1) := by decide +kernel
theorem dJ7_fill_53178_5 : decode cJ7_fill_53178 5 = .ok (.iload_n 2, 1) := by decide +kernel
theorem dJ7_fill_53178_6 : decode cJ7_fill_53178 6 = .ok (.iload_n 3, 1) := by decide +kernel
theorem dJ7_fill_53178_7 : decode cJ7_fill_53178 7 = .ok (.if_icmp .ge 13, 3) := by decide +kernel
theorem dJ7_fill_53178_10 : decode cJ7_fill_53178 10 = .ok (.aload_n 0, 1) := by decide +kernel
theorem dJ7_fill_53178_11 : decode cJ7_fill_53178 11 = .ok (.iload_n 2, 1) := by decide +kernel
theorem dJ7_fill_53178_12 : decode cJ7_fill_53178 12 = .ok (.iload_n 1, 1) := by decide +kernel
theorem dJ7_fill_53178_13 : decode cJ7_fill_53178 13 = .ok (.iastore, 1) := by decide +kernel
theorem dJ7_fill_53178_14 : decode cJ7_fill_53178 14 = .ok (.iinc 2 1, 3) := by decide +kernel
theorem dJ7_fill_53178_17 : decode cJ7_fill_53178 17 = .ok (.goto (-12), 3) := by decide +kernel
theorem dJ7_fill_53178_20 : decode cJ7_fill_53178 20 = .ok (.return_, 1) := by decide +kernel
end
section
theorem dX6_init_0 : decode cX6_init 0 = .ok (.aload_n 0, 1) := by decide +kernel
theorem dX6_init_1 : decode cX6_init 1 = .ok (.invokespecial 1, 3) := by decide +kernel
theorem dX6_init_4 : decode cX6_init 4 = .ok (.aload_n 0, 1) := by decide +kernel
theorem dX6_init_5 : decode cX6_init 5 = .ok (.new 7, 3) := by decide +kernel
theorem dX6_init_8 : decode cX6_init 8 = .ok (.dup, 1) := by decide +kernel
theorem dX6_init_9 : decode cX6_init 9 = .ok (.invokespecial 9, 3) := by decide +kernel
theorem dX6_init_12 : decode cX6_init 12 = .ok (.putfield 10, 3) := by decide +kernel
theorem dX6_init_15 : decode cX6_init 15 = .ok (.aload_n 0, 1) := by decide +kernel
theorem dX6_init_16 : decode cX6_init 16 = .ok (.new 16, 3) := by decide +kernel
theorem dX6_init_19 : decode cX6_init 19 = .ok (.dup, 1) := by decide +kernel
theorem dX6_init_20 : decode cX6_init 20 = .ok (.aload_n 0, 1) := by decide +kernel
theorem dX6_init_21 : decode cX6_init 21 = .ok (.getfield 10, 3) := by decide +kernel
theorem dX6_init_24 : decode cX6_init 24 = .ok (.invokespecial 18, 3) := by decide +kernel
theorem dX6_init_27 : decode cX6_init 27 = .ok (.putfield 21, 3) := by decide +kernel
theorem dX6_init_30 : decode cX6_init 30 = .ok (.aload_n 0, 1) := by decide +kernel
theorem dX6_init_31 : decode cX6_init 31 = .ok (.new 25, 3) := by decide +kernel
theorem dX6_init_34 : decode cX6_init 34 = .ok (.dup, 1) := by decide +kernel
theorem dX6_init_35 : decode cX6_init 35 = .ok (.invokespecial 27, 3) := by decide +kernel
theorem dX6_init_38 : decode cX6_init 38 = .ok (.putfield 28, 3) := by decide +kernel
theorem dX6_init_41 : decode cX6_init 41 = .ok (.aload_n 0, 1) := by decide +kernel
theorem dX6_init_42 : decode cX6_init 42 = .ok (.getfield 28, 3) := by decide +kernel
theorem dX6_init_45 : decode cX6_init 45 = .ok (.iconst 0, 1) := by decide +kernel
theorem dX6_init_46 : decode cX6_init 46 = .ok (.invokevirtual 32, 3) := by decide +kernel
theorem dX6_init_49 : decode cX6_init 49 = .ok (.pop, 1) := by decide +kernel
theorem dX6_init_50 : decode cX6_init 50 = .ok (.aload_n 0, 1) := by decide +kernel
theorem dX6_init_51 : decode cX6_init 51 = .ok (.getfield 28, 3) := by decide +kernel
theorem dX6_init_54 : decode cX6_init 54 = .ok (.getstatic 36, 3) := by decide +kernel
theorem dX6_init_57 : decode cX6_init 57 = .ok (.invokevirtual 40, 3) := by decide +kernel
theorem dX6_init_60 : decode cX6_init 60 = .ok (.pop, 1) := by decide +kernel
theorem dX6_init_61 : decode cX6_init 61 = .ok (.aload_n 0, 1) := by decide +kernel
theorem dX6_init_62 : decode cX6_init 62 = .ok (.new 25, 3) := by decide +kernel
theorem dX6_init_65 : decode cX6_init 65 = .ok (.dup, 1) := by decide +kernel
theorem dX6_init_66 : decode cX6_init 66 = .ok (.invokespecial 27, 3) := by decide +kernel
theorem dX6_init_69 : decode cX6_init 69 = .ok (.putfield 44, 3) := by decide +kernel
theorem dX6_init_72 : decode cX6_init 72 = .ok (.aload_n 0, 1) := by decide +kernel
theorem dX6_init_73 : decode cX6_init 73 = .ok (.new 47, 3) := by decide +kernel
theorem dX6_init_76 : decode cX6_init 76 = .ok (.dup, 1) := by decide +kernel
theorem dX6_init_77 : decode cX6_init 77 = .ok (.aload_n 0, 1) := by decide +kernel
theorem dX6_init_78 : decode cX6_init 78 = .ok (.getfield 28, 3) := by decide +kernel
theorem dX6_init_81 : decode cX6_init 81 = .ok (.invokespecial 49, 3) := by decide +kernel
theorem dX6_init_84 : decode cX6_init 84 = .ok (.putfield 52, 3) := by decide +kernel
theorem dX6_init_87 : decode cX6_init 87 = .ok (.aload_n 0, 1) := by decide +kernel
theorem dX6_init_88 : decode cX6_init 88 = .ok (.new 56, 3) := by decide +kernel
theorem dX6_init_91 : decode cX6_init 91 = .ok (.dup, 1) := by decide +kernel
theorem dX6_init_92 : decode cX6_init 92 = .ok (.aload_n 0, 1) := by decide +kernel
theorem dX6_init_93 : decode cX6_init 93 = .ok (.getfield 52, 3) := by decide +kernel
theorem dX6_init_96 : decode cX6_init 96 = .ok (.aload_n 0, 1) := by decide +kernel
theorem dX6_init_97 : decode cX6_init 97 = .ok (.getfield 28, 3) := by decide +kernel
theorem dX6_init_100 : decode cX6_init 100 = .ok (.invokespecial 58, 3) := by decide +kernel
theorem dX6_init_103 : decode cX6_init 103 = .ok (.putfield 61, 3) := by decide +kernel
theorem dX6_init_106 : decode cX6_init 106 = .ok (.aload_n 0, 1) := by decide +kernel
theorem dX6_init_107 : decode cX6_init 107 = .ok (.iconst 5, 1) := by decide +kernel
theorem dX6_init_108 : decode cX6_init 108 = .ok (.newarray .int, 2) := by decide +kernel
theorem dX6_init_110 : decode cX6_init 110 = .ok (.putfield 65, 3) := by decide +kernel
theorem dX6_init_113 : decode cX6_init 113 = .ok (.aload_n 0, 1) := by decide +kernel
theorem dX6_init_114 : decode cX6_init 114 = .ok (.iconst 5, 1) := by decide +kernel
theorem dX6_init_115 : decode cX6_init 115 = .ok (.newarray .int, 2) := by decide +kernel
theorem dX6_init_117 : decode cX6_init 117 = .ok (.putfield 68, 3) := by decide +kernel
theorem dX6_init_120 : decode cX6_init 120 = .ok (.aload_n 0, 1) := by decide +kernel
theorem dX6_init_121 : decode cX6_init 121 = .ok (.iconst 5, 1) := by decide +kernel
theorem dX6_init_122 : decode cX6_init 122 = .ok (.newarray .int, 2) := by decide +kernel
theorem dX6_init_124 : decode cX6_init 124 = .ok (.putfield 71, 3) := by decide +kernel
theorem dX6_init_127 : decode cX6_init 127 = .ok (.aload_n 0, 1) := by decide +kernel
theorem dX6_init_128 : decode cX6_init 128 = .ok (.iconst 2, 1) := by decide +kernel
theorem dX6_init_129 : decode cX6_init 129 = .ok (.newarray .int, 2) := by decide +kernel
theorem dX6_init_131 : decode cX6_init 131 = .ok (.putfield 74, 3) := by decide +kernel
theorem dX6_init_134 : decode cX6_init 134 = .ok (.aload_n 0, 1) := by decide +kernel
theorem dX6_init_135 : decode cX6_init 135 = .ok (.iconst 0, 1) := by decide +kernel
theorem dX6_init_136 : decode cX6_init 136 = .ok (.putfield 77, 3) := by decide +kernel
theorem dX6_init_139 : decode cX6_init 139 = .ok (.aload_n 0, 1) := by decide +kernel
theorem dX6_init_140 : decode cX6_init 140 = .ok (.aload_n 0, 1) := by decide +kernel
theorem dX6_init_141 : decode cX6_init 141 = .ok (.getfield 28, 3) := by decide +kernel
theorem dX6_init_144 : decode cX6_init 144 = .ok (.invokevirtual 81, 3) := by decide +kernel
theorem dX6_init_147 : decode cX6_init 147 = .ok (.putfield 85, 3) := by decide +kernel
theorem dX6_init_150 : decode cX6_init 150 = .ok (.return_, 1) := by decide +kernel
theorem dX6_write_0 : decode cX6_write 0 = .ok (.iload_n 1, 1) := by decide +kernel
theorem dX6_write_1 : decode cX6_write 1 = .ok (.iconst 1, 1) := by decide +kernel
theorem dX6_write_2 : decode cX6_write 2 = .ok (.bipush 8, 2) := by decide +kernel
theorem dX6_write_4 : decode cX6_write 4 = .ok (.invokestatic 88, 3) := by decide +kernel
theorem dX6_write_7 : decode cX6_write 7 = .ok (.ifCond .ne 5, 3) := by decide +kernel
theorem dX6_write_10 : decode cX6_write 10 = .ok (.iconst (-1), 1) := by decide +kernel
theorem dX6_write_11 : decode cX6_write 11 = .ok (.ireturn, 1) := by decide +kernel
theorem dX6_write_12 : decode cX6_write 12 = .ok (.aload_n 0, 1) := by decide +kernel
theorem dX6_write_13 : decode cX6_write 13 = .ok (.getfield 10, 3) := by decide +kernel
theorem dX6_write_16 : decode cX6_write 16 = .ok (.iload_n 1, 1) := by decide +kernel
theorem dX6_write_17 : decode cX6_write 17 = .ok (.lload_n 2, 1) := by decide +kernel
theorem dX6_write_18 : decode cX6_write 18 = .ok (.invokevirtual 92, 3) := by decide +kernel
theorem dX6_write_21 : decode cX6_write 21 = .ok (.ifCond .eq 13, 3) := by decide +kernel
theorem dX6_write_24 : decode cX6_write 24 = .ok (.aload_n 0, 1) := by decide +kernel
theorem dX6_write_25 : decode cX6_write 25 = .ok (.getfield 10, 3) := by decide +kernel
theorem dX6_write_28 : decode cX6_write 28 = .ok (.invokevirtual 96, 3) := by decide +kernel
theorem dX6_write_31 : decode cX6_write 31 = .ok (.goto 5, 3) := by decide +kernel
theorem dX6_write_34 : decode cX6_write 34 = .ok (.bipush (-3), 2) := by decide +kernel
theorem dX6_write_36 : decode cX6_write 36 = .ok (.ireturn, 1) := by decide +kernel
theorem dX6_wipe_0 : decode cX6_wipe 0 = .ok (.aload_n 0, 1) := by decide +kernel
theorem dX6_wipe_1 : decode cX6_wipe 1 = .ok (.getfield 10, 3) := by decide +kernel
theorem dX6_wipe_4 : decode cX6_wipe 4 = .ok (.invokevirtual 96, 3) := by decide +kernel
theorem dX6_wipe_7 : decode cX6_wipe 7 = .ok (.istore_n 1, 1) := by decide +kernel
theorem dX6_wipe_8 : decode cX6_wipe 8 = .ok (.aload_n 0, 1) := by decide +kernel
theorem dX6_wipe_9 : decode cX6_wipe 9 = .ok (.getfield 10, 3) := by decide +kernel
theorem dX6_wipe_12 : decode cX6_wipe 12 = .ok (.invokevirtual 99, 3) := by decide +kernel
theorem dX6_wipe_15 : decode cX6_wipe 15 = .ok (.iload_n 1, 1) := by decide +kernel
theorem dX6_wipe_16 : decode cX6_wipe 16 = .ok (.ireturn, 1) := by decide +kernel
theorem dX6_fault_0 : decode cX6_fault 0 = .ok (.aload_n 0, 1) := by decide +kernel
theorem dX6_fault_1 : decode cX6_fault 1 = .ok (.getfield 21, 3) := by decide +kernel
theorem dX6_fault_4 : decode cX6_fault 4 = .ok (.aload_n 0, 1) := by decide +kernel
theorem dX6_fault_5 : decode cX6_fault 5 = .ok (.getfield 44, 3) := by decide +kernel
theorem dX6_fault_8 : decode cX6_fault 8 = .ok (.invokevirtual 102, 3) := by decide +kernel
theorem dX6_fault_11 : decode cX6_fault 11 = .ok (.ireturn, 1) := by decide +kernel
theorem dX6_lay_0 : decode cX6_lay 0 = .ok (.aload_n 0, 1) := by decide +kernel
theorem dX6_lay_1 : decode cX6_lay 1 = .ok (.getfield 21, 3) := by decide +kernel
theorem dX6_lay_4 : decode cX6_lay 4 = .ok (.aload_n 0, 1) := by decide +kernel
theorem dX6_lay_5 : decode cX6_lay 5 = .ok (.getfield 44, 3) := by decide +kernel
theorem dX6_lay_8 : decode cX6_lay 8 = .ok (.invokevirtual 102, 3) := by decide +kernel
theorem dX6_lay_11 : decode cX6_lay 11 = .ok (.bipush (-4), 2) := by decide +kernel
theorem dX6_lay_13 : decode cX6_lay 13 = .ok (.if_icmp .ne 23, 3) := by decide +kernel
theorem dX6_lay_16 : decode cX6_lay 16 = .ok (.aload_n 0, 1) := by decide +kernel
theorem dX6_lay_17 : decode cX6_lay 17 = .ok (.getfield 44, 3) := by decide +kernel
theorem dX6_lay_20 : decode cX6_lay 20 = .ok (.invokevirtual 106, 3) := by decide +kernel
theorem dX6_lay_23 : decode cX6_lay 23 = .ok (.ifCond .eq 13, 3) := by decide +kernel
theorem dX6_lay_26 : decode cX6_lay 26 = .ok (.aload_n 0, 1) := by decide +kernel
theorem dX6_lay_27 : decode cX6_lay 27 = .ok (.getfield 44, 3) := by decide +kernel
theorem dX6_lay_30 : decode cX6_lay 30 = .ok (.invokevirtual 109, 3) := by decide +kernel
theorem dX6_lay_33 : decode cX6_lay 33 = .ok (.ifCond .ne 6, 3) := by decide +kernel
theorem dX6_lay_36 : decode cX6_lay 36 = .ok (.bipush (-2), 2) := by decide +kernel
theorem dX6_lay_38 : decode cX6_lay 38 = .ok (.ireturn, 1) := by decide +kernel
theorem dX6_lay_39 : decode cX6_lay 39 = .ok (.aload_n 0, 1) := by decide +kernel
theorem dX6_lay_40 : decode cX6_lay 40 = .ok (.getfield 28, 3) := by decide +kernel
theorem dX6_lay_43 : decode cX6_lay 43 = .ok (.astore_n 1, 1) := by decide +kernel
theorem dX6_lay_44 : decode cX6_lay 44 = .ok (.aload_n 0, 1) := by decide +kernel
theorem dX6_lay_45 : decode cX6_lay 45 = .ok (.aload_n 0, 1) := by decide +kernel
theorem dX6_lay_46 : decode cX6_lay 46 = .ok (.getfield 44, 3) := by decide +kernel
theorem dX6_lay_49 : decode cX6_lay 49 = .ok (.putfield 28, 3) := by decide +kernel
theorem dX6_lay_52 : decode cX6_lay 52 = .ok (.aload_n 0, 1) := by decide +kernel
theorem dX6_lay_53 : decode cX6_lay 53 = .ok (.aload_n 1, 1) := by decide +kernel
theorem dX6_lay_54 : decode cX6_lay 54 = .ok (.putfield 44, 3) := by decide +kernel
theorem dX6_lay_57 : decode cX6_lay 57 = .ok (.aload_n 0, 1) := by decide +kernel
theorem dX6_lay_58 : decode cX6_lay 58 = .ok (.getfield 61, 3) := by decide +kernel
theorem dX6_lay_61 : decode cX6_lay 61 = .ok (.aload_n 0, 1) := by decide +kernel
theorem dX6_lay_62 : decode cX6_lay 62 = .ok (.getfield 28, 3) := by decide +kernel
theorem dX6_lay_65 : decode cX6_lay 65 = .ok (.invokevirtual 112, 3) := by decide +kernel
theorem dX6_lay_68 : decode cX6_lay 68 = .ok (.aload_n 0, 1) := by decide +kernel
theorem dX6_lay_69 : decode cX6_lay 69 = .ok (.aload_n 0, 1) := by decide +kernel
theorem dX6_lay_70 : decode cX6_lay 70 = .ok (.getfield 28, 3) := by decide +kernel
theorem dX6_lay_73 : decode cX6_lay 73 = .ok (.invokevirtual 81, 3) := by decide +kernel
theorem dX6_lay_76 : decode cX6_lay 76 = .ok (.putfield 85, 3) := by decide +kernel
theorem dX6_lay_79 : decode cX6_lay 79 = .ok (.aload_n 0, 1) := by decide +kernel
theorem dX6_lay_80 : decode cX6_lay 80 = .ok (.iconst 0, 1) := by decide +kernel
theorem dX6_lay_81 : decode cX6_lay 81 = .ok (.putfield 77, 3) := by decide +kernel
theorem dX6_lay_84 : decode cX6_lay 84 = .ok (.aload_n 0, 1) := by decide +kernel
theorem dX6_lay_85 : decode cX6_lay 85 = .ok (.getfield 28, 3) := by decide +kernel
theorem dX6_lay_88 : decode cX6_lay 88 = .ok (.invokevirtual 109, 3) := by decide +kernel
theorem dX6_lay_91 : decode cX6_lay 91 = .ok (.ireturn, 1) := by decide +kernel
theorem dX6_reader_0 : decode cX6_reader 0 = .ok (.aload_n 0, 1) := by decide +kernel
theorem dX6_reader_1 : decode cX6_reader 1 = .ok (.iload_n 1, 1) := by decide +kernel
theorem dX6_reader_2 : decode cX6_reader 2 = .ok (.invokevirtual 115, 3) := by decide +kernel
theorem dX6_reader_5 : decode cX6_reader 5 = .ok (.ifCond .eq 13, 3) := by decide +kernel
theorem dX6_reader_8 : decode cX6_reader 8 = .ok (.iload_n 2, 1) := by decide +kernel
theorem dX6_reader_9 : decode cX6_reader 9 = .ok (.iconst 0, 1) := by decide +kernel
theorem dX6_reader_10 : decode cX6_reader 10 = .ok (.bipush 7, 2) := by decide +kernel
theorem dX6_reader_12 : decode cX6_reader 12 = .ok (.invokestatic 88, 3) := by decide +kernel
theorem dX6_reader_15 : decode cX6_reader 15 = .ok (.ifCond .ne 5, 3) := by decide +kernel
theorem dX6_reader_18 : decode cX6_reader 18 = .ok (.iconst (-1), 1) := by decide +kernel
theorem dX6_reader_19 : decode cX6_reader 19 = .ok (.ireturn, 1) := by decide +kernel
theorem dX6_reader_20 : decode cX6_reader 20 = .ok (.iload_n 2, 1) := by decide +kernel
theorem dX6_reader_21 : decode cX6_reader 21 = .ok (.bipush 7, 2) := by decide +kernel
theorem dX6_reader_23 : decode cX6_reader 23 = .ok (.if_icmp .ne 14, 3) := by decide +kernel
theorem dX6_reader_26 : decode cX6_reader 26 = .ok (.aload_n 0, 1) := by decide +kernel
theorem dX6_reader_27 : decode cX6_reader 27 = .ok (.getfield 85, 3) := by decide +kernel
theorem dX6_reader_30 : decode cX6_reader 30 = .ok (.iload_n 1, 1) := by decide +kernel
theorem dX6_reader_31 : decode cX6_reader 31 = .ok (.ishr, 1) := by decide +kernel
theorem dX6_reader_32 : decode cX6_reader 32 = .ok (.iconst 1, 1) := by decide +kernel
theorem dX6_reader_33 : decode cX6_reader 33 = .ok (.iand, 1) := by decide +kernel
theorem dX6_reader_34 : decode cX6_reader 34 = .ok (.goto 12, 3) := by decide +kernel
theorem dX6_reader_37 : decode cX6_reader 37 = .ok (.aload_n 0, 1) := by decide +kernel
theorem dX6_reader_38 : decode cX6_reader 38 = .ok (.getfield 28, 3) := by decide +kernel
theorem dX6_reader_41 : decode cX6_reader 41 = .ok (.iload_n 1, 1) := by decide +kernel
theorem dX6_reader_42 : decode cX6_reader 42 = .ok (.iload_n 2, 1) := by decide +kernel
theorem dX6_reader_43 : decode cX6_reader 43 = .ok (.invokevirtual 118, 3) := by decide +kernel
theorem dX6_reader_46 : decode cX6_reader 46 = .ok (.ireturn, 1) := by decide +kernel
theorem dX6_kind_0 : decode cX6_kind 0 = .ok (.aload_n 0, 1) := by decide +kernel
theorem dX6_kind_1 : decode cX6_kind 1 = .ok (.iload_n 1, 1) := by decide +kernel
theorem dX6_kind_2 : decode cX6_kind 2 = .ok (.invokevirtual 122, 3) := by decide +kernel
theorem dX6_kind_5 : decode cX6_kind 5 = .ok (.ifCond .eq 14, 3) := by decide +kernel
theorem dX6_kind_8 : decode cX6_kind 8 = .ok (.aload_n 0, 1) := by decide +kernel
theorem dX6_kind_9 : decode cX6_kind 9 = .ok (.getfield 28, 3) := by decide +kernel
theorem dX6_kind_12 : decode cX6_kind 12 = .ok (.iload_n 1, 1) := by decide +kernel
theorem dX6_kind_13 : decode cX6_kind 13 = .ok (.invokevirtual 125, 3) := by decide +kernel
theorem dX6_kind_16 : decode cX6_kind 16 = .ok (.goto 4, 3) := by decide +kernel
theorem dX6_kind_19 : decode cX6_kind 19 = .ok (.iconst (-1), 1) := by decide +kernel
theorem dX6_kind_20 : decode cX6_kind 20 = .ok (.ireturn, 1) := by decide +kernel
theorem dX6_hold_0 : decode cX6_hold 0 = .ok (.aload_n 0, 1) := by decide +kernel
theorem dX6_hold_1 : decode cX6_hold 1 = .ok (.iload_n 1, 1) := by decide +kernel
theorem dX6_hold_2 : decode cX6_hold 2 = .ok (.invokevirtual 115, 3) := by decide +kernel
theorem dX6_hold_5 : decode cX6_hold 5 = .ok (.ifCond .ne 5, 3) := by decide +kernel
theorem dX6_hold_8 : decode cX6_hold 8 = .ok (.iconst (-1), 1) := by decide +kernel
theorem dX6_hold_9 : decode cX6_hold 9 = .ok (.ireturn, 1) := by decide +kernel
theorem dX6_hold_10 : decode cX6_hold 10 = .ok (.aload_n 0, 1) := by decide +kernel
theorem dX6_hold_11 : decode cX6_hold 11 = .ok (.getfield 85, 3) := by decide +kernel
theorem dX6_hold_14 : decode cX6_hold 14 = .ok (.iload_n 1, 1) := by decide +kernel
theorem dX6_hold_15 : decode cX6_hold 15 = .ok (.ishr, 1) := by decide +kernel
theorem dX6_hold_16 : decode cX6_hold 16 = .ok (.iconst 1, 1) := by decide +kernel
theorem dX6_hold_17 : decode cX6_hold 17 = .ok (.iand, 1) := by decide +kernel
theorem dX6_hold_18 : decode cX6_hold 18 = .ok (.istore_n 3, 1) := by decide +kernel
theorem dX6_hold_19 : decode cX6_hold 19 = .ok (.aload_n 0, 1) := by decide +kernel
theorem dX6_hold_20 : decode cX6_hold 20 = .ok (.iload_n 2, 1) := by decide +kernel
theorem dX6_hold_21 : decode cX6_hold 21 = .ok (.ifCond .eq 14, 3) := by decide +kernel
theorem dX6_hold_24 : decode cX6_hold 24 = .ok (.aload_n 0, 1) := by decide +kernel
theorem dX6_hold_25 : decode cX6_hold 25 = .ok (.getfield 85, 3) := by decide +kernel
theorem dX6_hold_28 : decode cX6_hold 28 = .ok (.iconst 1, 1) := by decide +kernel
theorem dX6_hold_29 : decode cX6_hold 29 = .ok (.iload_n 1, 1) := by decide +kernel
theorem dX6_hold_30 : decode cX6_hold 30 = .ok (.ishl, 1) := by decide +kernel
theorem dX6_hold_31 : decode cX6_hold 31 = .ok (.ior, 1) := by decide +kernel
theorem dX6_hold_32 : decode cX6_hold 32 = .ok (.goto 13, 3) := by decide +kernel
theorem dX6_hold_35 : decode cX6_hold 35 = .ok (.aload_n 0, 1) := by decide +kernel
theorem dX6_hold_36 : decode cX6_hold 36 = .ok (.getfield 85, 3) := by decide +kernel
theorem dX6_hold_39 : decode cX6_hold 39 = .ok (.iconst 1, 1) := by decide +kernel
theorem dX6_hold_40 : decode cX6_hold 40 = .ok (.iload_n 1, 1) := by decide +kernel
theorem dX6_hold_41 : decode cX6_hold 41 = .ok (.ishl, 1) := by decide +kernel
theorem dX6_hold_42 : decode cX6_hold 42 = .ok (.iconst (-1), 1) := by decide +kernel
theorem dX6_hold_43 : decode cX6_hold 43 = .ok (.ixor, 1) := by decide +kernel
theorem dX6_hold_44 : decode cX6_hold 44 = .ok (.iand, 1) := by decide +kernel
theorem dX6_hold_45 : decode cX6_hold 45 = .ok (.putfield 85, 3) := by decide +kernel
theorem dX6_hold_48 : decode cX6_hold 48 = .ok (.iload_n 3, 1) := by decide +kernel
theorem dX6_hold_49 : decode cX6_hold 49 = .ok (.ireturn, 1) := by decide +kernel
theorem dX6_seat_0 : decode cX6_seat 0 = .ok (.iload_n 1, 1) := by decide +kernel
theorem dX6_seat_1 : decode cX6_seat 1 = .ok (.invokestatic 129, 3) := by decide +kernel
theorem dX6_seat_4 : decode cX6_seat 4 = .ok (.ifCond .eq 32, 3) := by decide +kernel
theorem dX6_seat_7 : decode cX6_seat 7 = .ok (.iload_n 2, 1) := by decide +kernel
theorem dX6_seat_8 : decode cX6_seat 8 = .ok (.iconst 0, 1) := by decide +kernel
theorem dX6_seat_9 : decode cX6_seat 9 = .ok (.sipush 399, 3) := by decide +kernel
theorem dX6_seat_12 : decode cX6_seat 12 = .ok (.invokestatic 88, 3) := by decide +kernel
theorem dX6_seat_15 : decode cX6_seat 15 = .ok (.ifCond .eq 21, 3) := by decide +kernel
theorem dX6_seat_18 : decode cX6_seat 18 = .ok (.aload_n 0, 1) := by decide +kernel
theorem dX6_seat_19 : decode cX6_seat 19 = .ok (.iload_n 3, 1) := by decide +kernel
theorem dX6_seat_20 : decode cX6_seat 20 = .ok (.invokevirtual 122, 3) := by decide +kernel
theorem dX6_seat_23 : decode cX6_seat 23 = .ok (.ifCond .eq 13, 3) := by decide +kernel
theorem dX6_seat_26 : decode cX6_seat 26 = .ok (.iload 4, 2) := by decide +kernel
theorem dX6_seat_28 : decode cX6_seat 28 = .ok (.iconst 0, 1) := by decide +kernel
theorem dX6_seat_29 : decode cX6_seat 29 = .ok (.iconst 1, 1) := by decide +kernel
theorem dX6_seat_30 : decode cX6_seat 30 = .ok (.invokestatic 88, 3) := by decide +kernel
theorem dX6_seat_33 : decode cX6_seat 33 = .ok (.ifCond .ne 5, 3) := by decide +kernel
theorem dX6_seat_36 : decode cX6_seat 36 = .ok (.iconst (-1), 1) := by decide +kernel
theorem dX6_seat_37 : decode cX6_seat 37 = .ok (.ireturn, 1) := by decide +kernel
theorem dX6_seat_38 : decode cX6_seat 38 = .ok (.aload_n 0, 1) := by decide +kernel
theorem dX6_seat_39 : decode cX6_seat 39 = .ok (.getfield 52, 3) := by decide +kernel
theorem dX6_seat_42 : decode cX6_seat 42 = .ok (.aload_n 0, 1) := by decide +kernel
theorem dX6_seat_43 : decode cX6_seat 43 = .ok (.getfield 28, 3) := by decide +kernel
theorem dX6_seat_46 : decode cX6_seat 46 = .ok (.iload_n 1, 1) := by decide +kernel
theorem dX6_seat_47 : decode cX6_seat 47 = .ok (.aload_n 0, 1) := by decide +kernel
theorem dX6_seat_48 : decode cX6_seat 48 = .ok (.getfield 85, 3) := by decide +kernel
theorem dX6_seat_51 : decode cX6_seat 51 = .ok (.invokevirtual 132, 3) := by decide +kernel
theorem dX6_seat_54 : decode cX6_seat 54 = .ok (.aload_n 0, 1) := by decide +kernel
theorem dX6_seat_55 : decode cX6_seat 55 = .ok (.getfield 52, 3) := by decide +kernel
theorem dX6_seat_58 : decode cX6_seat 58 = .ok (.iload_n 2, 1) := by decide +kernel
theorem dX6_seat_59 : decode cX6_seat 59 = .ok (.invokevirtual 136, 3) := by decide +kernel
theorem dX6_seat_62 : decode cX6_seat 62 = .ok (.iload 4, 2) := by decide +kernel
theorem dX6_seat_64 : decode cX6_seat 64 = .ok (.ifCond .ne 14, 3) := by decide +kernel
theorem dX6_seat_67 : decode cX6_seat 67 = .ok (.aload_n 0, 1) := by decide +kernel
theorem dX6_seat_68 : decode cX6_seat 68 = .ok (.getfield 52, 3) := by decide +kernel
theorem dX6_seat_71 : decode cX6_seat 71 = .ok (.iload_n 3, 1) := by decide +kernel
theorem dX6_seat_72 : decode cX6_seat 72 = .ok (.invokevirtual 140, 3) := by decide +kernel
theorem dX6_seat_75 : decode cX6_seat 75 = .ok (.goto 11, 3) := by decide +kernel
theorem dX6_seat_78 : decode cX6_seat 78 = .ok (.aload_n 0, 1) := by decide +kernel
theorem dX6_seat_79 : decode cX6_seat 79 = .ok (.getfield 52, 3) := by decide +kernel
theorem dX6_seat_82 : decode cX6_seat 82 = .ok (.iload_n 3, 1) := by decide +kernel
theorem dX6_seat_83 : decode cX6_seat 83 = .ok (.invokevirtual 143, 3) := by decide +kernel
theorem dX6_seat_86 : decode cX6_seat 86 = .ok (.istore 5, 2) := by decide +kernel
theorem dX6_seat_88 : decode cX6_seat 88 = .ok (.iload 5, 2) := by decide +kernel
theorem dX6_seat_90 : decode cX6_seat 90 = .ok (.iconst (-1), 1) := by decide +kernel
theorem dX6_seat_91 : decode cX6_seat 91 = .ok (.if_icmp .ne 8, 3) := by decide +kernel
theorem dX6_seat_94 : decode cX6_seat 94 = .ok (.bipush (-4), 2) := by decide +kernel
theorem dX6_seat_96 : decode cX6_seat 96 = .ok (.goto 5, 3) := by decide +kernel
theorem dX6_seat_99 : decode cX6_seat 99 = .ok (.iload 5, 2) := by decide +kernel
theorem dX6_seat_101 : decode cX6_seat 101 = .ok (.ireturn, 1) := by decide +kernel
theorem dX6_does_0 : decode cX6_does 0 = .ok (.iload_n 1, 1) := by decide +kernel
theorem dX6_does_1 : decode cX6_does 1 = .ok (.invokestatic 129, 3) := by decide +kernel
theorem dX6_does_4 : decode cX6_does 4 = .ok (.ifCond .eq 22, 3) := by decide +kernel
theorem dX6_does_7 : decode cX6_does 7 = .ok (.iload_n 2, 1) := by decide +kernel
theorem dX6_does_8 : decode cX6_does 8 = .ok (.iconst 0, 1) := by decide +kernel
theorem dX6_does_9 : decode cX6_does 9 = .ok (.sipush 399, 3) := by decide +kernel
theorem dX6_does_12 : decode cX6_does 12 = .ok (.invokestatic 88, 3) := by decide +kernel
theorem dX6_does_15 : decode cX6_does 15 = .ok (.ifCond .eq 11, 3) := by decide +kernel
theorem dX6_does_18 : decode cX6_does 18 = .ok (.aload_n 0, 1) := by decide +kernel
theorem dX6_does_19 : decode cX6_does 19 = .ok (.iload_n 3, 1) := by decide +kernel
theorem dX6_does_20 : decode cX6_does 20 = .ok (.invokevirtual 115, 3) := by decide +kernel
theorem dX6_does_23 : decode cX6_does 23 = .ok (.ifCond .ne 5, 3) := by decide +kernel
theorem dX6_does_26 : decode cX6_does 26 = .ok (.iconst (-1), 1) := by decide +kernel
theorem dX6_does_27 : decode cX6_does 27 = .ok (.ireturn, 1) := by decide +kernel
theorem dX6_does_28 : decode cX6_does 28 = .ok (.aload_n 0, 1) := by decide +kernel
theorem dX6_does_29 : decode cX6_does 29 = .ok (.getfield 52, 3) := by decide +kernel
theorem dX6_does_32 : decode cX6_does 32 = .ok (.aload_n 0, 1) := by decide +kernel
theorem dX6_does_33 : decode cX6_does 33 = .ok (.getfield 28, 3) := by decide +kernel
theorem dX6_does_36 : decode cX6_does 36 = .ok (.iload_n 1, 1) := by decide +kernel
theorem dX6_does_37 : decode cX6_does 37 = .ok (.aload_n 0, 1) := by decide +kernel
theorem dX6_does_38 : decode cX6_does 38 = .ok (.getfield 85, 3) := by decide +kernel
theorem dX6_does_41 : decode cX6_does 41 = .ok (.invokevirtual 132, 3) := by decide +kernel
theorem dX6_does_44 : decode cX6_does 44 = .ok (.aload_n 0, 1) := by decide +kernel
theorem dX6_does_45 : decode cX6_does 45 = .ok (.getfield 52, 3) := by decide +kernel
theorem dX6_does_48 : decode cX6_does 48 = .ok (.iload_n 2, 1) := by decide +kernel
theorem dX6_does_49 : decode cX6_does 49 = .ok (.invokevirtual 136, 3) := by decide +kernel
theorem dX6_does_52 : decode cX6_does 52 = .ok (.aload_n 0, 1) := by decide +kernel
theorem dX6_does_53 : decode cX6_does 53 = .ok (.getfield 52, 3) := by decide +kernel
theorem dX6_does_56 : decode cX6_does 56 = .ok (.iload_n 3, 1) := by decide +kernel
theorem dX6_does_57 : decode cX6_does 57 = .ok (.invokevirtual 146, 3) := by decide +kernel
theorem dX6_does_60 : decode cX6_does 60 = .ok (.ireturn, 1) := by decide +kernel
theorem dX6_day_0 : decode cX6_day 0 = .ok (.iload_n 1, 1) := by decide +kernel
theorem dX6_day_1 : decode cX6_day 1 = .ok (.invokestatic 129, 3) := by decide +kernel
theorem dX6_day_4 : decode cX6_day 4 = .ok (.ifCond .eq 12, 3) := by decide +kernel
theorem dX6_day_7 : decode cX6_day 7 = .ok (.iload_n 2, 1) := by decide +kernel
theorem dX6_day_8 : decode cX6_day 8 = .ok (.iconst 0, 1) := by decide +kernel
theorem dX6_day_9 : decode cX6_day 9 = .ok (.iconst 5, 1) := by decide +kernel
theorem dX6_day_10 : decode cX6_day 10 = .ok (.invokestatic 88, 3) := by decide +kernel
theorem dX6_day_13 : decode cX6_day 13 = .ok (.ifCond .ne 5, 3) := by decide +kernel
theorem dX6_day_16 : decode cX6_day 16 = .ok (.iconst (-1), 1) := by decide +kernel
theorem dX6_day_17 : decode cX6_day 17 = .ok (.ireturn, 1) := by decide +kernel
theorem dX6_day_18 : decode cX6_day 18 = .ok (.aload_n 0, 1) := by decide +kernel
theorem dX6_day_19 : decode cX6_day 19 = .ok (.iload_n 1, 1) := by decide +kernel
theorem dX6_day_20 : decode cX6_day 20 = .ok (.invokevirtual 149, 3) := by decide +kernel
theorem dX6_day_23 : decode cX6_day 23 = .ok (.iload_n 2, 1) := by decide +kernel
theorem dX6_day_24 : decode cX6_day 24 = .ok (.tableswitch 82 0 4 #[36, 44, 52, 63, 71], 36) := by decide +kernel
theorem dX6_day_60 : decode cX6_day 60 = .ok (.aload_n 0, 1) := by decide +kernel
theorem dX6_day_61 : decode cX6_day 61 = .ok (.getfield 52, 3) := by decide +kernel
theorem dX6_day_64 : decode cX6_day 64 = .ok (.invokevirtual 152, 3) := by decide +kernel
theorem dX6_day_67 : decode cX6_day 67 = .ok (.ireturn, 1) := by decide +kernel
theorem dX6_day_68 : decode cX6_day 68 = .ok (.aload_n 0, 1) := by decide +kernel
theorem dX6_day_69 : decode cX6_day 69 = .ok (.getfield 52, 3) := by decide +kernel
theorem dX6_day_72 : decode cX6_day 72 = .ok (.invokevirtual 155, 3) := by decide +kernel
theorem dX6_day_75 : decode cX6_day 75 = .ok (.ireturn, 1) := by decide +kernel
theorem dX6_day_76 : decode cX6_day 76 = .ok (.aload_n 0, 1) := by decide +kernel
theorem dX6_day_77 : decode cX6_day 77 = .ok (.getfield 52, 3) := by decide +kernel
theorem dX6_day_80 : decode cX6_day 80 = .ok (.invokevirtual 158, 3) := by decide +kernel
theorem dX6_day_83 : decode cX6_day 83 = .ok (.invokestatic 161, 3) := by decide +kernel
theorem dX6_day_86 : decode cX6_day 86 = .ok (.ireturn, 1) := by decide +kernel
theorem dX6_day_87 : decode cX6_day 87 = .ok (.aload_n 0, 1) := by decide +kernel
theorem dX6_day_88 : decode cX6_day 88 = .ok (.getfield 52, 3) := by decide +kernel
theorem dX6_day_91 : decode cX6_day 91 = .ok (.invokevirtual 158, 3) := by decide +kernel
theorem dX6_day_94 : decode cX6_day 94 = .ok (.ireturn, 1) := by decide +kernel
theorem dX6_day_95 : decode cX6_day 95 = .ok (.aload_n 0, 1) := by decide +kernel
theorem dX6_day_96 : decode cX6_day 96 = .ok (.getfield 52, 3) := by decide +kernel
theorem dX6_day_99 : decode cX6_day 99 = .ok (.invokevirtual 166, 3) := by decide +kernel
theorem dX6_day_102 : decode cX6_day 102 = .ok (.invokestatic 161, 3) := by decide +kernel
theorem dX6_day_105 : decode cX6_day 105 = .ok (.ireturn, 1) := by decide +kernel
theorem dX6_day_106 : decode cX6_day 106 = .ok (.aload_n 0, 1) := by decide +kernel
theorem dX6_day_107 : decode cX6_day 107 = .ok (.getfield 52, 3) := by decide +kernel
theorem dX6_day_110 : decode cX6_day 110 = .ok (.invokevirtual 166, 3) := by decide +kernel
theorem dX6_day_113 : decode cX6_day 113 = .ok (.ireturn, 1) := by decide +kernel
theorem dX6_sat_0 : decode cX6_sat 0 = .ok (.iload_n 1, 1) := by decide +kernel
theorem dX6_sat_1 : decode cX6_sat 1 = .ok (.invokestatic 129, 3) := by decide +kernel
theorem dX6_sat_4 : decode cX6_sat 4 = .ok (.ifCond .eq 11, 3) := by decide +kernel
theorem dX6_sat_7 : decode cX6_sat 7 = .ok (.aload_n 0, 1) := by decide +kernel
theorem dX6_sat_8 : decode cX6_sat 8 = .ok (.iload_n 2, 1) := by decide +kernel
theorem dX6_sat_9 : decode cX6_sat 9 = .ok (.invokevirtual 115, 3) := by decide +kernel
theorem dX6_sat_12 : decode cX6_sat 12 = .ok (.ifCond .ne 5, 3) := by decide +kernel
theorem dX6_sat_15 : decode cX6_sat 15 = .ok (.iconst (-1), 1) := by decide +kernel
theorem dX6_sat_16 : decode cX6_sat 16 = .ok (.ireturn, 1) := by decide +kernel
theorem dX6_sat_17 : decode cX6_sat 17 = .ok (.aload_n 0, 1) := by decide +kernel
theorem dX6_sat_18 : decode cX6_sat 18 = .ok (.iload_n 1, 1) := by decide +kernel
theorem dX6_sat_19 : decode cX6_sat 19 = .ok (.invokevirtual 149, 3) := by decide +kernel
theorem dX6_sat_22 : decode cX6_sat 22 = .ok (.aload_n 0, 1) := by decide +kernel
theorem dX6_sat_23 : decode cX6_sat 23 = .ok (.getfield 52, 3) := by decide +kernel
theorem dX6_sat_26 : decode cX6_sat 26 = .ok (.iload_n 2, 1) := by decide +kernel
theorem dX6_sat_27 : decode cX6_sat 27 = .ok (.invokevirtual 169, 3) := by decide +kernel
theorem dX6_sat_30 : decode cX6_sat 30 = .ok (.ireturn, 1) := by decide +kernel
theorem dX6_bettered_0 : decode cX6_bettered 0 = .ok (.iconst 0, 1) := by decide +kernel
theorem dX6_bettered_1 : decode cX6_bettered 1 = .ok (.istore_n 1, 1) := by decide +kernel
theorem dX6_bettered_2 : decode cX6_bettered 2 = .ok (.iload_n 1, 1) := by decide +kernel
theorem dX6_bettered_3 : decode cX6_bettered 3 = .ok (.iconst 5, 1) := by decide +kernel
theorem dX6_bettered_4 : decode cX6_bettered 4 = .ok (.if_icmp .ge 59, 3) := by decide +kernel
theorem dX6_bettered_7 : decode cX6_bettered 7 = .ok (.aload_n 0, 1) := by decide +kernel
theorem dX6_bettered_8 : decode cX6_bettered 8 = .ok (.iload_n 1, 1) := by decide +kernel
theorem dX6_bettered_9 : decode cX6_bettered 9 = .ok (.invokevirtual 149, 3) := by decide +kernel
theorem dX6_bettered_12 : decode cX6_bettered 12 = .ok (.aload_n 0, 1) := by decide +kernel
theorem dX6_bettered_13 : decode cX6_bettered 13 = .ok (.getfield 65, 3) := by decide +kernel
theorem dX6_bettered_16 : decode cX6_bettered 16 = .ok (.iload_n 1, 1) := by decide +kernel
theorem dX6_bettered_17 : decode cX6_bettered 17 = .ok (.aload_n 0, 1) := by decide +kernel
theorem dX6_bettered_18 : decode cX6_bettered 18 = .ok (.getfield 52, 3) := by decide +kernel
theorem dX6_bettered_21 : decode cX6_bettered 21 = .ok (.invokevirtual 152, 3) := by decide +kernel
theorem dX6_bettered_24 : decode cX6_bettered 24 = .ok (.iastore, 1) := by decide +kernel
theorem dX6_bettered_25 : decode cX6_bettered 25 = .ok (.aload_n 0, 1) := by decide +kernel
theorem dX6_bettered_26 : decode cX6_bettered 26 = .ok (.getfield 68, 3) := by decide +kernel
theorem dX6_bettered_29 : decode cX6_bettered 29 = .ok (.iload_n 1, 1) := by decide +kernel
theorem dX6_bettered_30 : decode cX6_bettered 30 = .ok (.aload_n 0, 1) := by decide +kernel
theorem dX6_bettered_31 : decode cX6_bettered 31 = .ok (.getfield 52, 3) := by decide +kernel
theorem dX6_bettered_34 : decode cX6_bettered 34 = .ok (.invokevirtual 158, 3) := by decide +kernel
theorem dX6_bettered_37 : decode cX6_bettered 37 = .ok (.invokestatic 161, 3) := by decide +kernel
theorem dX6_bettered_40 : decode cX6_bettered 40 = .ok (.iastore, 1) := by decide +kernel
theorem dX6_bettered_41 : decode cX6_bettered 41 = .ok (.aload_n 0, 1) := by decide +kernel
theorem dX6_bettered_42 : decode cX6_bettered 42 = .ok (.getfield 71, 3) := by decide +kernel
theorem dX6_bettered_45 : decode cX6_bettered 45 = .ok (.iload_n 1, 1) := by decide +kernel
theorem dX6_bettered_46 : decode cX6_bettered 46 = .ok (.aload_n 0, 1) := by decide +kernel
theorem dX6_bettered_47 : decode cX6_bettered 47 = .ok (.getfield 52, 3) := by decide +kernel
theorem dX6_bettered_50 : decode cX6_bettered 50 = .ok (.invokevirtual 166, 3) := by decide +kernel
theorem dX6_bettered_53 : decode cX6_bettered 53 = .ok (.invokestatic 161, 3) := by decide +kernel
theorem dX6_bettered_56 : decode cX6_bettered 56 = .ok (.iastore, 1) := by decide +kernel
theorem dX6_bettered_57 : decode cX6_bettered 57 = .ok (.iinc 1 1, 3) := by decide +kernel
theorem dX6_bettered_60 : decode cX6_bettered 60 = .ok (.goto (-58), 3) := by decide +kernel
theorem dX6_bettered_63 : decode cX6_bettered 63 = .ok (.iconst 0, 1) := by decide +kernel
theorem dX6_bettered_64 : decode cX6_bettered 64 = .ok (.istore_n 1, 1) := by decide +kernel
theorem dX6_bettered_65 : decode cX6_bettered 65 = .ok (.iconst 0, 1) := by decide +kernel
theorem dX6_bettered_66 : decode cX6_bettered 66 = .ok (.istore_n 2, 1) := by decide +kernel
theorem dX6_bettered_67 : decode cX6_bettered 67 = .ok (.iload_n 2, 1) := by decide +kernel
theorem dX6_bettered_68 : decode cX6_bettered 68 = .ok (.iconst 5, 1) := by decide +kernel
theorem dX6_bettered_69 : decode cX6_bettered 69 = .ok (.if_icmp .ge 41, 3) := by decide +kernel
theorem dX6_bettered_72 : decode cX6_bettered 72 = .ok (.iconst 0, 1) := by decide +kernel
theorem dX6_bettered_73 : decode cX6_bettered 73 = .ok (.istore_n 3, 1) := by decide +kernel
theorem dX6_bettered_74 : decode cX6_bettered 74 = .ok (.iload_n 3, 1) := by decide +kernel
theorem dX6_bettered_75 : decode cX6_bettered 75 = .ok (.iconst 5, 1) := by decide +kernel
theorem dX6_bettered_76 : decode cX6_bettered 76 = .ok (.if_icmp .ge 28, 3) := by decide +kernel
theorem dX6_bettered_79 : decode cX6_bettered 79 = .ok (.iload_n 1, 1) := by decide +kernel
theorem dX6_bettered_80 : decode cX6_bettered 80 = .ok (.aload_n 0, 1) := by decide +kernel
theorem dX6_bettered_81 : decode cX6_bettered 81 = .ok (.iload_n 3, 1) := by decide +kernel
theorem dX6_bettered_82 : decode cX6_bettered 82 = .ok (.iload_n 2, 1) := by decide +kernel
theorem dX6_bettered_83 : decode cX6_bettered 83 = .ok (.invokevirtual 172, 3) := by decide +kernel
theorem dX6_bettered_86 : decode cX6_bettered 86 = .ok (.ifCond .eq 9, 3) := by decide +kernel
theorem dX6_bettered_89 : decode cX6_bettered 89 = .ok (.iconst 1, 1) := by decide +kernel
theorem dX6_bettered_90 : decode cX6_bettered 90 = .ok (.iload_n 2, 1) := by decide +kernel
theorem dX6_bettered_91 : decode cX6_bettered 91 = .ok (.ishl, 1) := by decide +kernel
theorem dX6_bettered_92 : decode cX6_bettered 92 = .ok (.goto 4, 3) := by decide +kernel
theorem dX6_bettered_95 : decode cX6_bettered 95 = .ok (.iconst 0, 1) := by decide +kernel
theorem dX6_bettered_96 : decode cX6_bettered 96 = .ok (.ior, 1) := by decide +kernel
theorem dX6_bettered_97 : decode cX6_bettered 97 = .ok (.istore_n 1, 1) := by decide +kernel
theorem dX6_bettered_98 : decode cX6_bettered 98 = .ok (.iinc 3 1, 3) := by decide +kernel
theorem dX6_bettered_101 : decode cX6_bettered 101 = .ok (.goto (-27), 3) := by decide +kernel
theorem dX6_bettered_104 : decode cX6_bettered 104 = .ok (.iinc 2 1, 3) := by decide +kernel
theorem dX6_bettered_107 : decode cX6_bettered 107 = .ok (.goto (-40), 3) := by decide +kernel
theorem dX6_bettered_110 : decode cX6_bettered 110 = .ok (.iload_n 1, 1) := by decide +kernel
theorem dX6_bettered_111 : decode cX6_bettered 111 = .ok (.ireturn, 1) := by decide +kernel
theorem dX6_rest_0 : decode cX6_rest 0 = .ok (.iload_n 1, 1) := by decide +kernel
theorem dX6_rest_1 : decode cX6_rest 1 = .ok (.invokestatic 129, 3) := by decide +kernel
theorem dX6_rest_4 : decode cX6_rest 4 = .ok (.ifCond .eq 18, 3) := by decide +kernel
theorem dX6_rest_7 : decode cX6_rest 7 = .ok (.iload_n 2, 1) := by decide +kernel
theorem dX6_rest_8 : decode cX6_rest 8 = .ok (.iconst 0, 1) := by decide +kernel
theorem dX6_rest_9 : decode cX6_rest 9 = .ok (.aload_n 0, 1) := by decide +kernel
theorem dX6_rest_10 : decode cX6_rest 10 = .ok (.getfield 28, 3) := by decide +kernel
theorem dX6_rest_13 : decode cX6_rest 13 = .ok (.invokevirtual 81, 3) := by decide +kernel
theorem dX6_rest_16 : decode cX6_rest 16 = .ok (.invokestatic 88, 3) := by decide +kernel
theorem dX6_rest_19 : decode cX6_rest 19 = .ok (.ifCond .ne 5, 3) := by decide +kernel
theorem dX6_rest_22 : decode cX6_rest 22 = .ok (.iconst (-1), 1) := by decide +kernel
theorem dX6_rest_23 : decode cX6_rest 23 = .ok (.ireturn, 1) := by decide +kernel
theorem dX6_rest_24 : decode cX6_rest 24 = .ok (.aload_n 0, 1) := by decide +kernel
theorem dX6_rest_25 : decode cX6_rest 25 = .ok (.getfield 61, 3) := by decide +kernel
theorem dX6_rest_28 : decode cX6_rest 28 = .ok (.iload_n 1, 1) := by decide +kernel
theorem dX6_rest_29 : decode cX6_rest 29 = .ok (.invokevirtual 176, 3) := by decide +kernel
theorem dX6_rest_32 : decode cX6_rest 32 = .ok (.aload_n 0, 1) := by decide +kernel
theorem dX6_rest_33 : decode cX6_rest 33 = .ok (.getfield 61, 3) := by decide +kernel
theorem dX6_rest_36 : decode cX6_rest 36 = .ok (.iload_n 2, 1) := by decide +kernel
theorem dX6_rest_37 : decode cX6_rest 37 = .ok (.invokevirtual 179, 3) := by decide +kernel
theorem dX6_rest_40 : decode cX6_rest 40 = .ok (.ifCond .eq 7, 3) := by decide +kernel
theorem dX6_rest_43 : decode cX6_rest 43 = .ok (.iconst 1, 1) := by decide +kernel
theorem dX6_rest_44 : decode cX6_rest 44 = .ok (.goto 4, 3) := by decide +kernel
theorem dX6_rest_47 : decode cX6_rest 47 = .ok (.iconst 0, 1) := by decide +kernel
theorem dX6_rest_48 : decode cX6_rest 48 = .ok (.ireturn, 1) := by decide +kernel
theorem dX6_rests_0 : decode cX6_rests 0 = .ok (.iload_n 1, 1) := by decide +kernel
theorem dX6_rests_1 : decode cX6_rests 1 = .ok (.invokestatic 129, 3) := by decide +kernel
theorem dX6_rests_4 : decode cX6_rests 4 = .ok (.ifCond .eq 12, 3) := by decide +kernel
theorem dX6_rests_7 : decode cX6_rests 7 = .ok (.iload_n 2, 1) := by decide +kernel
theorem dX6_rests_8 : decode cX6_rests 8 = .ok (.iconst 0, 1) := by decide +kernel
theorem dX6_rests_9 : decode cX6_rests 9 = .ok (.iconst 2, 1) := by decide +kernel
theorem dX6_rests_10 : decode cX6_rests 10 = .ok (.invokestatic 88, 3) := by decide +kernel
theorem dX6_rests_13 : decode cX6_rests 13 = .ok (.ifCond .ne 5, 3) := by decide +kernel
theorem dX6_rests_16 : decode cX6_rests 16 = .ok (.iconst (-1), 1) := by decide +kernel
theorem dX6_rests_17 : decode cX6_rests 17 = .ok (.ireturn, 1) := by decide +kernel
theorem dX6_rests_18 : decode cX6_rests 18 = .ok (.aload_n 0, 1) := by decide +kernel
theorem dX6_rests_19 : decode cX6_rests 19 = .ok (.getfield 61, 3) := by decide +kernel
theorem dX6_rests_22 : decode cX6_rests 22 = .ok (.iload_n 1, 1) := by decide +kernel
theorem dX6_rests_23 : decode cX6_rests 23 = .ok (.invokevirtual 176, 3) := by decide +kernel
theorem dX6_rests_26 : decode cX6_rests 26 = .ok (.iconst 0, 1) := by decide +kernel
theorem dX6_rests_27 : decode cX6_rests 27 = .ok (.istore_n 3, 1) := by decide +kernel
theorem dX6_rests_28 : decode cX6_rests 28 = .ok (.bipush (-4), 2) := by decide +kernel
theorem dX6_rests_30 : decode cX6_rests 30 = .ok (.istore 4, 2) := by decide +kernel
theorem dX6_rests_32 : decode cX6_rests 32 = .ok (.bipush (-4), 2) := by decide +kernel
theorem dX6_rests_34 : decode cX6_rests 34 = .ok (.istore 5, 2) := by decide +kernel
theorem dX6_rests_36 : decode cX6_rests 36 = .ok (.iconst 0, 1) := by decide +kernel
theorem dX6_rests_37 : decode cX6_rests 37 = .ok (.istore 6, 2) := by decide +kernel
theorem dX6_rests_39 : decode cX6_rests 39 = .ok (.iload 6, 2) := by decide +kernel
theorem dX6_rests_41 : decode cX6_rests 41 = .ok (.aload_n 0, 1) := by decide +kernel
theorem dX6_rests_42 : decode cX6_rests 42 = .ok (.getfield 28, 3) := by decide +kernel
theorem dX6_rests_45 : decode cX6_rests 45 = .ok (.invokevirtual 81, 3) := by decide +kernel
theorem dX6_rests_48 : decode cX6_rests 48 = .ok (.if_icmp .gt 44, 3) := by decide +kernel
theorem dX6_rests_51 : decode cX6_rests 51 = .ok (.aload_n 0, 1) := by decide +kernel
theorem dX6_rests_52 : decode cX6_rests 52 = .ok (.getfield 61, 3) := by decide +kernel
theorem dX6_rests_55 : decode cX6_rests 55 = .ok (.iload 6, 2) := by decide +kernel
theorem dX6_rests_57 : decode cX6_rests 57 = .ok (.invokevirtual 179, 3) := by decide +kernel
theorem dX6_rests_60 : decode cX6_rests 60 = .ok (.ifCond .eq 26, 3) := by decide +kernel
theorem dX6_rests_63 : decode cX6_rests 63 = .ok (.iinc 3 1, 3) := by decide +kernel
theorem dX6_rests_66 : decode cX6_rests 66 = .ok (.iload 4, 2) := by decide +kernel
theorem dX6_rests_68 : decode cX6_rests 68 = .ok (.bipush (-4), 2) := by decide +kernel
theorem dX6_rests_70 : decode cX6_rests 70 = .ok (.if_icmp .ne 8, 3) := by decide +kernel
theorem dX6_rests_73 : decode cX6_rests 73 = .ok (.iload 6, 2) := by decide +kernel
theorem dX6_rests_75 : decode cX6_rests 75 = .ok (.goto 5, 3) := by decide +kernel
theorem dX6_rests_78 : decode cX6_rests 78 = .ok (.iload 4, 2) := by decide +kernel
theorem dX6_rests_80 : decode cX6_rests 80 = .ok (.istore 4, 2) := by decide +kernel
theorem dX6_rests_82 : decode cX6_rests 82 = .ok (.iload 6, 2) := by decide +kernel
theorem dX6_rests_84 : decode cX6_rests 84 = .ok (.istore 5, 2) := by decide +kernel
theorem dX6_rests_86 : decode cX6_rests 86 = .ok (.iinc 6 1, 3) := by decide +kernel
theorem dX6_rests_89 : decode cX6_rests 89 = .ok (.goto (-50), 3) := by decide +kernel
theorem dX6_rests_92 : decode cX6_rests 92 = .ok (.iload_n 2, 1) := by decide +kernel
theorem dX6_rests_93 : decode cX6_rests 93 = .ok (.ifCond .ne 7, 3) := by decide +kernel
theorem dX6_rests_96 : decode cX6_rests 96 = .ok (.iload_n 3, 1) := by decide +kernel
theorem dX6_rests_97 : decode cX6_rests 97 = .ok (.goto 15, 3) := by decide +kernel
theorem dX6_rests_100 : decode cX6_rests 100 = .ok (.iload_n 2, 1) := by decide +kernel
theorem dX6_rests_101 : decode cX6_rests 101 = .ok (.iconst 1, 1) := by decide +kernel
theorem dX6_rests_102 : decode cX6_rests 102 = .ok (.if_icmp .ne 8, 3) := by decide +kernel
theorem dX6_rests_105 : decode cX6_rests 105 = .ok (.iload 4, 2) := by decide +kernel
theorem dX6_rests_107 : decode cX6_rests 107 = .ok (.goto 5, 3) := by decide +kernel
theorem dX6_rests_110 : decode cX6_rests 110 = .ok (.iload 5, 2) := by decide +kernel
theorem dX6_rests_112 : decode cX6_rests 112 = .ok (.ireturn, 1) := by decide +kernel
theorem dX6_rounds_0 : decode cX6_rounds 0 = .ok (.iload_n 1, 1) := by decide +kernel
theorem dX6_rounds_1 : decode cX6_rounds 1 = .ok (.invokestatic 129, 3) := by decide +kernel
theorem dX6_rounds_4 : decode cX6_rounds 4 = .ok (.ifCond .eq 13, 3) := by decide +kernel
theorem dX6_rounds_7 : decode cX6_rounds 7 = .ok (.iload_n 2, 1) := by decide +kernel
theorem dX6_rounds_8 : decode cX6_rounds 8 = .ok (.iconst 1, 1) := by decide +kernel
theorem dX6_rounds_9 : decode cX6_rounds 9 = .ok (.bipush 99, 2) := by decide +kernel
theorem dX6_rounds_11 : decode cX6_rounds 11 = .ok (.invokestatic 88, 3) := by decide +kernel
theorem dX6_rounds_14 : decode cX6_rounds 14 = .ok (.ifCond .ne 5, 3) := by decide +kernel
theorem dX6_rounds_17 : decode cX6_rounds 17 = .ok (.iconst (-1), 1) := by decide +kernel
theorem dX6_rounds_18 : decode cX6_rounds 18 = .ok (.ireturn, 1) := by decide +kernel
theorem dX6_rounds_19 : decode cX6_rounds 19 = .ok (.aload_n 0, 1) := by decide +kernel
theorem dX6_rounds_20 : decode cX6_rounds 20 = .ok (.iload_n 1, 1) := by decide +kernel
theorem dX6_rounds_21 : decode cX6_rounds 21 = .ok (.invokevirtual 149, 3) := by decide +kernel
theorem dX6_rounds_24 : decode cX6_rounds 24 = .ok (.aload_n 0, 1) := by decide +kernel
theorem dX6_rounds_25 : decode cX6_rounds 25 = .ok (.getfield 52, 3) := by decide +kernel
theorem dX6_rounds_28 : decode cX6_rounds 28 = .ok (.iload_n 2, 1) := by decide +kernel
theorem dX6_rounds_29 : decode cX6_rounds 29 = .ok (.invokevirtual 182, 3) := by decide +kernel
theorem dX6_rounds_32 : decode cX6_rounds 32 = .ok (.ireturn, 1) := by decide +kernel
theorem dX6_often_0 : decode cX6_often 0 = .ok (.iload_n 1, 1) := by decide +kernel
theorem dX6_often_1 : decode cX6_often 1 = .ok (.invokestatic 129, 3) := by decide +kernel
theorem dX6_often_4 : decode cX6_often 4 = .ok (.ifCond .eq 14, 3) := by decide +kernel
theorem dX6_often_7 : decode cX6_often 7 = .ok (.iload_n 2, 1) := by decide +kernel
theorem dX6_often_8 : decode cX6_often 8 = .ok (.iconst 0, 1) := by decide +kernel
theorem dX6_often_9 : decode cX6_often 9 = .ok (.sipush 9999, 3) := by decide +kernel
theorem dX6_often_12 : decode cX6_often 12 = .ok (.invokestatic 88, 3) := by decide +kernel
theorem dX6_often_15 : decode cX6_often 15 = .ok (.ifCond .ne 5, 3) := by decide +kernel
theorem dX6_often_18 : decode cX6_often 18 = .ok (.iconst (-1), 1) := by decide +kernel
theorem dX6_often_19 : decode cX6_often 19 = .ok (.ireturn, 1) := by decide +kernel
theorem dX6_often_20 : decode cX6_often 20 = .ok (.aload_n 0, 1) := by decide +kernel
theorem dX6_often_21 : decode cX6_often 21 = .ok (.iload_n 1, 1) := by decide +kernel
theorem dX6_often_22 : decode cX6_often 22 = .ok (.invokevirtual 149, 3) := by decide +kernel
theorem dX6_often_25 : decode cX6_often 25 = .ok (.aload_n 0, 1) := by decide +kernel
theorem dX6_often_26 : decode cX6_often 26 = .ok (.getfield 52, 3) := by decide +kernel
theorem dX6_often_29 : decode cX6_often 29 = .ok (.invokevirtual 152, 3) := by decide +kernel
theorem dX6_often_32 : decode cX6_often 32 = .ok (.istore_n 3, 1) := by decide +kernel
theorem dX6_often_33 : decode cX6_often 33 = .ok (.bipush 99, 2) := by decide +kernel
theorem dX6_often_35 : decode cX6_often 35 = .ok (.istore 4, 2) := by decide +kernel
theorem dX6_often_37 : decode cX6_often 37 = .ok (.iload 4, 2) := by decide +kernel
theorem dX6_often_39 : decode cX6_often 39 = .ok (.iconst 1, 1) := by decide +kernel
theorem dX6_often_40 : decode cX6_often 40 = .ok (.if_icmp .lt 30, 3) := by decide +kernel
theorem dX6_often_43 : decode cX6_often 43 = .ok (.aload_n 0, 1) := by decide +kernel
theorem dX6_often_44 : decode cX6_often 44 = .ok (.getfield 52, 3) := by decide +kernel
theorem dX6_often_47 : decode cX6_often 47 = .ok (.iload 4, 2) := by decide +kernel
theorem dX6_often_49 : decode cX6_often 49 = .ok (.invokevirtual 182, 3) := by decide +kernel
theorem dX6_often_52 : decode cX6_often 52 = .ok (.iload_n 3, 1) := by decide +kernel
theorem dX6_often_53 : decode cX6_often 53 = .ok (.isub, 1) := by decide +kernel
theorem dX6_often_54 : decode cX6_often 54 = .ok (.invokestatic 185, 3) := by decide +kernel
theorem dX6_often_57 : decode cX6_often 57 = .ok (.iload_n 2, 1) := by decide +kernel
theorem dX6_often_58 : decode cX6_often 58 = .ok (.if_icmp .gt 6, 3) := by decide +kernel
theorem dX6_often_61 : decode cX6_often 61 = .ok (.iload 4, 2) := by decide +kernel
theorem dX6_often_63 : decode cX6_often 63 = .ok (.ireturn, 1) := by decide +kernel
theorem dX6_often_64 : decode cX6_often 64 = .ok (.iinc 4 (-1), 3) := by decide +kernel
theorem dX6_often_67 : decode cX6_often 67 = .ok (.goto (-30), 3) := by decide +kernel
theorem dX6_often_70 : decode cX6_often 70 = .ok (.bipush (-4), 2) := by decide +kernel
theorem dX6_often_72 : decode cX6_often 72 = .ok (.ireturn, 1) := by decide +kernel
theorem dX6_porter_0 : decode cX6_porter 0 = .ok (.iload_n 1, 1) := by decide +kernel
theorem dX6_porter_1 : decode cX6_porter 1 = .ok (.iconst 0, 1) := by decide +kernel
theorem dX6_porter_2 : decode cX6_porter 2 = .ok (.bipush 8, 2) := by decide +kernel
theorem dX6_porter_4 : decode cX6_porter 4 = .ok (.invokestatic 88, 3) := by decide +kernel
theorem dX6_porter_7 : decode cX6_porter 7 = .ok (.ifCond .ne 5, 3) := by decide +kernel
theorem dX6_porter_10 : decode cX6_porter 10 = .ok (.iconst (-1), 1) := by decide +kernel
theorem dX6_porter_11 : decode cX6_porter 11 = .ok (.ireturn, 1) := by decide +kernel
theorem dX6_porter_12 : decode cX6_porter 12 = .ok (.bipush 99, 2) := by decide +kernel
theorem dX6_porter_14 : decode cX6_porter 14 = .ok (.istore_n 2, 1) := by decide +kernel
theorem dX6_porter_15 : decode cX6_porter 15 = .ok (.iload_n 2, 1) := by decide +kernel
theorem dX6_porter_16 : decode cX6_porter 16 = .ok (.iconst 1, 1) := by decide +kernel
theorem dX6_porter_17 : decode cX6_porter 17 = .ok (.if_icmp .lt 27, 3) := by decide +kernel
theorem dX6_porter_20 : decode cX6_porter 20 = .ok (.aload_n 0, 1) := by decide +kernel
theorem dX6_porter_21 : decode cX6_porter 21 = .ok (.aload_n 0, 1) := by decide +kernel
theorem dX6_porter_22 : decode cX6_porter 22 = .ok (.getfield 28, 3) := by decide +kernel
theorem dX6_porter_25 : decode cX6_porter 25 = .ok (.invokevirtual 190, 3) := by decide +kernel
theorem dX6_porter_28 : decode cX6_porter 28 = .ok (.iload_n 2, 1) := by decide +kernel
theorem dX6_porter_29 : decode cX6_porter 29 = .ok (.invokevirtual 193, 3) := by decide +kernel
theorem dX6_porter_32 : decode cX6_porter 32 = .ok (.iload_n 1, 1) := by decide +kernel
theorem dX6_porter_33 : decode cX6_porter 33 = .ok (.if_icmp .gt 5, 3) := by decide +kernel
theorem dX6_porter_36 : decode cX6_porter 36 = .ok (.iload_n 2, 1) := by decide +kernel
theorem dX6_porter_37 : decode cX6_porter 37 = .ok (.ireturn, 1) := by decide +kernel
theorem dX6_porter_38 : decode cX6_porter 38 = .ok (.iinc 2 (-1), 3) := by decide +kernel
theorem dX6_porter_41 : decode cX6_porter 41 = .ok (.goto (-26), 3) := by decide +kernel
theorem dX6_porter_44 : decode cX6_porter 44 = .ok (.bipush (-4), 2) := by decide +kernel
theorem dX6_porter_46 : decode cX6_porter 46 = .ok (.ireturn, 1) := by decide +kernel
theorem dX6_card_0 : decode cX6_card 0 = .ok (.iload_n 1, 1) := by decide +kernel
theorem dX6_card_1 : decode cX6_card 1 = .ok (.iconst 0, 1) := by decide +kernel
theorem dX6_card_2 : decode cX6_card 2 = .ok (.bipush 8, 2) := by decide +kernel
theorem dX6_card_4 : decode cX6_card 4 = .ok (.invokestatic 88, 3) := by decide +kernel
theorem dX6_card_7 : decode cX6_card 7 = .ok (.ifCond .ne 5, 3) := by decide +kernel
theorem dX6_card_10 : decode cX6_card 10 = .ok (.iconst (-1), 1) := by decide +kernel
theorem dX6_card_11 : decode cX6_card 11 = .ok (.ireturn, 1) := by decide +kernel
theorem dX6_card_12 : decode cX6_card 12 = .ok (.bipush 99, 2) := by decide +kernel
theorem dX6_card_14 : decode cX6_card 14 = .ok (.istore_n 2, 1) := by decide +kernel
theorem dX6_card_15 : decode cX6_card 15 = .ok (.iload_n 2, 1) := by decide +kernel
theorem dX6_card_16 : decode cX6_card 16 = .ok (.iconst 1, 1) := by decide +kernel
theorem dX6_card_17 : decode cX6_card 17 = .ok (.if_icmp .lt 27, 3) := by decide +kernel
theorem dX6_card_20 : decode cX6_card 20 = .ok (.aload_n 0, 1) := by decide +kernel
theorem dX6_card_21 : decode cX6_card 21 = .ok (.iload_n 2, 1) := by decide +kernel
theorem dX6_card_22 : decode cX6_card 22 = .ok (.aload_n 0, 1) := by decide +kernel
theorem dX6_card_23 : decode cX6_card 23 = .ok (.getfield 28, 3) := by decide +kernel
theorem dX6_card_26 : decode cX6_card 26 = .ok (.invokevirtual 196, 3) := by decide +kernel
theorem dX6_card_29 : decode cX6_card 29 = .ok (.invokevirtual 193, 3) := by decide +kernel
theorem dX6_card_32 : decode cX6_card 32 = .ok (.iload_n 1, 1) := by decide +kernel
theorem dX6_card_33 : decode cX6_card 33 = .ok (.if_icmp .gt 5, 3) := by decide +kernel
theorem dX6_card_36 : decode cX6_card 36 = .ok (.iload_n 2, 1) := by decide +kernel
theorem dX6_card_37 : decode cX6_card 37 = .ok (.ireturn, 1) := by decide +kernel
theorem dX6_card_38 : decode cX6_card 38 = .ok (.iinc 2 (-1), 3) := by decide +kernel
theorem dX6_card_41 : decode cX6_card 41 = .ok (.goto (-26), 3) := by decide +kernel
theorem dX6_card_44 : decode cX6_card 44 = .ok (.bipush (-4), 2) := by decide +kernel
theorem dX6_card_46 : decode cX6_card 46 = .ok (.ireturn, 1) := by decide +kernel
theorem dX6_booked_0 : decode cX6_booked 0 = .ok (.iload_n 1, 1) := by decide +kernel
theorem dX6_booked_1 : decode cX6_booked 1 = .ok (.iconst 1, 1) := by decide +kernel
theorem dX6_booked_2 : decode cX6_booked 2 = .ok (.bipush 14, 2) := by decide +kernel
theorem dX6_booked_4 : decode cX6_booked 4 = .ok (.invokestatic 88, 3) := by decide +kernel
theorem dX6_booked_7 : decode cX6_booked 7 = .ok (.ifCond .eq 33, 3) := by decide +kernel
theorem dX6_booked_10 : decode cX6_booked 10 = .ok (.iload_n 2, 1) := by decide +kernel
theorem dX6_booked_11 : decode cX6_booked 11 = .ok (.iconst 1, 1) := by decide +kernel
theorem dX6_booked_12 : decode cX6_booked 12 = .ok (.bipush 14, 2) := by decide +kernel
theorem dX6_booked_14 : decode cX6_booked 14 = .ok (.invokestatic 88, 3) := by decide +kernel
theorem dX6_booked_17 : decode cX6_booked 17 = .ok (.ifCond .eq 23, 3) := by decide +kernel
theorem dX6_booked_20 : decode cX6_booked 20 = .ok (.iload_n 3, 1) := by decide +kernel
theorem dX6_booked_21 : decode cX6_booked 21 = .ok (.iconst 0, 1) := by decide +kernel
theorem dX6_booked_22 : decode cX6_booked 22 = .ok (.bipush 10, 2) := by decide +kernel
theorem dX6_booked_24 : decode cX6_booked 24 = .ok (.invokestatic 88, 3) := by decide +kernel
theorem dX6_booked_27 : decode cX6_booked 27 = .ok (.ifCond .eq 13, 3) := by decide +kernel
theorem dX6_booked_30 : decode cX6_booked 30 = .ok (.iload 4, 2) := by decide +kernel
theorem dX6_booked_32 : decode cX6_booked 32 = .ok (.iconst 0, 1) := by decide +kernel
theorem dX6_booked_33 : decode cX6_booked 33 = .ok (.iconst 1, 1) := by decide +kernel
theorem dX6_booked_34 : decode cX6_booked 34 = .ok (.invokestatic 88, 3) := by decide +kernel
theorem dX6_booked_37 : decode cX6_booked 37 = .ok (.ifCond .ne 7, 3) := by decide +kernel
theorem dX6_booked_40 : decode cX6_booked 40 = .ok (.ldc2_w 199, 3) := by decide +kernel
theorem dX6_booked_43 : decode cX6_booked 43 = .ok (.lreturn, 1) := by decide +kernel
theorem dX6_booked_44 : decode cX6_booked 44 = .ok (.iload_n 1, 1) := by decide +kernel
theorem dX6_booked_45 : decode cX6_booked 45 = .ok (.iload_n 2, 1) := by decide +kernel
theorem dX6_booked_46 : decode cX6_booked 46 = .ok (.iload_n 3, 1) := by decide +kernel
theorem dX6_booked_47 : decode cX6_booked 47 = .ok (.invokestatic 201, 3) := by decide +kernel
theorem dX6_booked_50 : decode cX6_booked 50 = .ok (.lstore 5, 2) := by decide +kernel
theorem dX6_booked_52 : decode cX6_booked 52 = .ok (.bipush 10, 2) := by decide +kernel
theorem dX6_booked_54 : decode cX6_booked 54 = .ok (.iload_n 1, 1) := by decide +kernel
theorem dX6_booked_55 : decode cX6_booked 55 = .ok (.invokestatic 207, 3) := by decide +kernel
theorem dX6_booked_58 : decode cX6_booked 58 = .ok (.lstore 7, 2) := by decide +kernel
theorem dX6_booked_60 : decode cX6_booked 60 = .ok (.lload 5, 2) := by decide +kernel
theorem dX6_booked_62 : decode cX6_booked 62 = .ok (.lload 7, 2) := by decide +kernel
theorem dX6_booked_64 : decode cX6_booked 64 = .ok (.invokestatic 211, 3) := by decide +kernel
theorem dX6_booked_67 : decode cX6_booked 67 = .ok (.lstore 9, 2) := by decide +kernel
theorem dX6_booked_69 : decode cX6_booked 69 = .ok (.lload 9, 2) := by decide +kernel
theorem dX6_booked_71 : decode cX6_booked 71 = .ok (.lconst 1, 1) := by decide +kernel
theorem dX6_booked_72 : decode cX6_booked 72 = .ok (.lcmp, 1) := by decide +kernel
theorem dX6_booked_73 : decode cX6_booked 73 = .ok (.ifCond .ge 7, 3) := by decide +kernel
theorem dX6_booked_76 : decode cX6_booked 76 = .ok (.ldc2_w 199, 3) := by decide +kernel
theorem dX6_booked_79 : decode cX6_booked 79 = .ok (.lreturn, 1) := by decide +kernel
theorem dX6_booked_80 : decode cX6_booked 80 = .ok (.iload 4, 2) := by decide +kernel
theorem dX6_booked_82 : decode cX6_booked 82 = .ok (.ifCond .ne 8, 3) := by decide +kernel
theorem dX6_booked_85 : decode cX6_booked 85 = .ok (.lload 5, 2) := by decide +kernel
theorem dX6_booked_87 : decode cX6_booked 87 = .ok (.goto 5, 3) := by decide +kernel
theorem dX6_booked_90 : decode cX6_booked 90 = .ok (.lload 7, 2) := by decide +kernel
theorem dX6_booked_92 : decode cX6_booked 92 = .ok (.lload 9, 2) := by decide +kernel
theorem dX6_booked_94 : decode cX6_booked 94 = .ok (.ldiv, 1) := by decide +kernel
theorem dX6_booked_95 : decode cX6_booked 95 = .ok (.lreturn, 1) := by decide +kernel
theorem dX6_over_0 : decode cX6_over 0 = .ok (.iload_n 1, 1) := by decide +kernel
theorem dX6_over_1 : decode cX6_over 1 = .ok (.iconst 1, 1) := by decide +kernel
theorem dX6_over_2 : decode cX6_over 2 = .ok (.bipush 14, 2) := by decide +kernel
theorem dX6_over_4 : decode cX6_over 4 = .ok (.invokestatic 88, 3) := by decide +kernel
theorem dX6_over_7 : decode cX6_over 7 = .ok (.ifCond .eq 23, 3) := by decide +kernel
theorem dX6_over_10 : decode cX6_over 10 = .ok (.iload_n 2, 1) := by decide +kernel
theorem dX6_over_11 : decode cX6_over 11 = .ok (.iconst 0, 1) := by decide +kernel
theorem dX6_over_12 : decode cX6_over 12 = .ok (.bipush 10, 2) := by decide +kernel
theorem dX6_over_14 : decode cX6_over 14 = .ok (.invokestatic 88, 3) := by decide +kernel
theorem dX6_over_17 : decode cX6_over 17 = .ok (.ifCond .eq 13, 3) := by decide +kernel
theorem dX6_over_20 : decode cX6_over 20 = .ok (.iload_n 3, 1) := by decide +kernel
theorem dX6_over_21 : decode cX6_over 21 = .ok (.iconst 0, 1) := by decide +kernel
theorem dX6_over_22 : decode cX6_over 22 = .ok (.bipush 100, 2) := by decide +kernel
theorem dX6_over_24 : decode cX6_over 24 = .ok (.invokestatic 88, 3) := by decide +kernel
theorem dX6_over_27 : decode cX6_over 27 = .ok (.ifCond .ne 5, 3) := by decide +kernel
theorem dX6_over_30 : decode cX6_over 30 = .ok (.iconst (-1), 1) := by decide +kernel
theorem dX6_over_31 : decode cX6_over 31 = .ok (.ireturn, 1) := by decide +kernel
theorem dX6_over_32 : decode cX6_over 32 = .ok (.bipush 14, 2) := by decide +kernel
theorem dX6_over_34 : decode cX6_over 34 = .ok (.istore 4, 2) := by decide +kernel
theorem dX6_over_36 : decode cX6_over 36 = .ok (.iload 4, 2) := by decide +kernel
theorem dX6_over_38 : decode cX6_over 38 = .ok (.iload_n 1, 1) := by decide +kernel
theorem dX6_over_39 : decode cX6_over 39 = .ok (.if_icmp .lt 37, 3) := by decide +kernel
theorem dX6_over_42 : decode cX6_over 42 = .ok (.iload 4, 2) := by decide +kernel
theorem dX6_over_44 : decode cX6_over 44 = .ok (.iload_n 1, 1) := by decide +kernel
theorem dX6_over_45 : decode cX6_over 45 = .ok (.iload_n 2, 1) := by decide +kernel
theorem dX6_over_46 : decode cX6_over 46 = .ok (.invokestatic 201, 3) := by decide +kernel
theorem dX6_over_49 : decode cX6_over 49 = .ok (.ldc2_w 215, 3) := by decide +kernel
theorem dX6_over_52 : decode cX6_over 52 = .ok (.lmul, 1) := by decide +kernel
theorem dX6_over_53 : decode cX6_over 53 = .ok (.bipush 10, 2) := by decide +kernel
theorem dX6_over_55 : decode cX6_over 55 = .ok (.iload 4, 2) := by decide +kernel
theorem dX6_over_57 : decode cX6_over 57 = .ok (.invokestatic 207, 3) := by decide +kernel
theorem dX6_over_60 : decode cX6_over 60 = .ok (.iload_n 3, 1) := by decide +kernel
theorem dX6_over_61 : decode cX6_over 61 = .ok (.i2l, 1) := by decide +kernel
theorem dX6_over_62 : decode cX6_over 62 = .ok (.lmul, 1) := by decide +kernel
theorem dX6_over_63 : decode cX6_over 63 = .ok (.lcmp, 1) := by decide +kernel
theorem dX6_over_64 : decode cX6_over 64 = .ok (.ifCond .lt 6, 3) := by decide +kernel
theorem dX6_over_67 : decode cX6_over 67 = .ok (.iload 4, 2) := by decide +kernel
theorem dX6_over_69 : decode cX6_over 69 = .ok (.ireturn, 1) := by decide +kernel
theorem dX6_over_70 : decode cX6_over 70 = .ok (.iinc 4 (-1), 3) := by decide +kernel
theorem dX6_over_73 : decode cX6_over 73 = .ok (.goto (-37), 3) := by decide +kernel
theorem dX6_over_76 : decode cX6_over 76 = .ok (.bipush (-4), 2) := by decide +kernel
theorem dX6_over_78 : decode cX6_over 78 = .ok (.ireturn, 1) := by decide +kernel
theorem dX6_dare_0 : decode cX6_dare 0 = .ok (.iload_n 1, 1) := by decide +kernel
theorem dX6_dare_1 : decode cX6_dare 1 = .ok (.iconst 0, 1) := by decide +kernel
theorem dX6_dare_2 : decode cX6_dare 2 = .ok (.bipush 98, 2) := by decide +kernel
theorem dX6_dare_4 : decode cX6_dare 4 = .ok (.invokestatic 88, 3) := by decide +kernel
theorem dX6_dare_7 : decode cX6_dare 7 = .ok (.ifCond .eq 22, 3) := by decide +kernel
theorem dX6_dare_10 : decode cX6_dare 10 = .ok (.iload_n 2, 1) := by decide +kernel
theorem dX6_dare_11 : decode cX6_dare 11 = .ok (.iconst 1, 1) := by decide +kernel
theorem dX6_dare_12 : decode cX6_dare 12 = .ok (.bipush 99, 2) := by decide +kernel
theorem dX6_dare_14 : decode cX6_dare 14 = .ok (.invokestatic 88, 3) := by decide +kernel
theorem dX6_dare_17 : decode cX6_dare 17 = .ok (.ifCond .eq 12, 3) := by decide +kernel
theorem dX6_dare_20 : decode cX6_dare 20 = .ok (.iload_n 3, 1) := by decide +kernel
theorem dX6_dare_21 : decode cX6_dare 21 = .ok (.iconst 0, 1) := by decide +kernel
theorem dX6_dare_22 : decode cX6_dare 22 = .ok (.iconst 1, 1) := by decide +kernel
theorem dX6_dare_23 : decode cX6_dare 23 = .ok (.invokestatic 88, 3) := by decide +kernel
theorem dX6_dare_26 : decode cX6_dare 26 = .ok (.ifCond .ne 5, 3) := by decide +kernel
theorem dX6_dare_29 : decode cX6_dare 29 = .ok (.iconst (-1), 1) := by decide +kernel
theorem dX6_dare_30 : decode cX6_dare 30 = .ok (.ireturn, 1) := by decide +kernel
theorem dX6_dare_31 : decode cX6_dare 31 = .ok (.iconst 0, 1) := by decide +kernel
theorem dX6_dare_32 : decode cX6_dare 32 = .ok (.istore 4, 2) := by decide +kernel
theorem dX6_dare_34 : decode cX6_dare 34 = .ok (.iconst 0, 1) := by decide +kernel
theorem dX6_dare_35 : decode cX6_dare 35 = .ok (.istore 5, 2) := by decide +kernel
theorem dX6_dare_37 : decode cX6_dare 37 = .ok (.iconst 0, 1) := by decide +kernel
theorem dX6_dare_38 : decode cX6_dare 38 = .ok (.istore 6, 2) := by decide +kernel
theorem dX6_dare_40 : decode cX6_dare 40 = .ok (.iload 6, 2) := by decide +kernel
theorem dX6_dare_42 : decode cX6_dare 42 = .ok (.aload_n 0, 1) := by decide +kernel
theorem dX6_dare_43 : decode cX6_dare 43 = .ok (.getfield 28, 3) := by decide +kernel
theorem dX6_dare_46 : decode cX6_dare 46 = .ok (.invokevirtual 109, 3) := by decide +kernel
theorem dX6_dare_49 : decode cX6_dare 49 = .ok (.if_icmp .ge 60, 3) := by decide +kernel
theorem dX6_dare_52 : decode cX6_dare 52 = .ok (.aload_n 0, 1) := by decide +kernel
theorem dX6_dare_53 : decode cX6_dare 53 = .ok (.getfield 28, 3) := by decide +kernel
theorem dX6_dare_56 : decode cX6_dare 56 = .ok (.iload 6, 2) := by decide +kernel
theorem dX6_dare_58 : decode cX6_dare 58 = .ok (.iconst 3, 1) := by decide +kernel
theorem dX6_dare_59 : decode cX6_dare 59 = .ok (.invokevirtual 118, 3) := by decide +kernel
theorem dX6_dare_62 : decode cX6_dare 62 = .ok (.istore 7, 2) := by decide +kernel
theorem dX6_dare_64 : decode cX6_dare 64 = .ok (.aload_n 0, 1) := by decide +kernel
theorem dX6_dare_65 : decode cX6_dare 65 = .ok (.getfield 28, 3) := by decide +kernel
theorem dX6_dare_68 : decode cX6_dare 68 = .ok (.iload 6, 2) := by decide +kernel
theorem dX6_dare_70 : decode cX6_dare 70 = .ok (.invokevirtual 217, 3) := by decide +kernel
theorem dX6_dare_73 : decode cX6_dare 73 = .ok (.ifCond .eq 30, 3) := by decide +kernel
theorem dX6_dare_76 : decode cX6_dare 76 = .ok (.iload 7, 2) := by decide +kernel
theorem dX6_dare_78 : decode cX6_dare 78 = .ok (.iload_n 1, 1) := by decide +kernel
theorem dX6_dare_79 : decode cX6_dare 79 = .ok (.if_icmp .le 24, 3) := by decide +kernel
theorem dX6_dare_82 : decode cX6_dare 82 = .ok (.iinc 4 1, 3) := by decide +kernel
theorem dX6_dare_85 : decode cX6_dare 85 = .ok (.iload 5, 2) := by decide +kernel
theorem dX6_dare_87 : decode cX6_dare 87 = .ok (.iload 7, 2) := by decide +kernel
theorem dX6_dare_89 : decode cX6_dare 89 = .ok (.iload_n 1, 1) := by decide +kernel
theorem dX6_dare_90 : decode cX6_dare 90 = .ok (.iload_n 2, 1) := by decide +kernel
theorem dX6_dare_91 : decode cX6_dare 91 = .ok (.iadd, 1) := by decide +kernel
theorem dX6_dare_92 : decode cX6_dare 92 = .ok (.if_icmp .gt 7, 3) := by decide +kernel
theorem dX6_dare_95 : decode cX6_dare 95 = .ok (.iconst 1, 1) := by decide +kernel
theorem dX6_dare_96 : decode cX6_dare 96 = .ok (.goto 4, 3) := by decide +kernel
theorem dX6_dare_99 : decode cX6_dare 99 = .ok (.iconst 0, 1) := by decide +kernel
theorem dX6_dare_100 : decode cX6_dare 100 = .ok (.iadd, 1) := by decide +kernel
theorem dX6_dare_101 : decode cX6_dare 101 = .ok (.istore 5, 2) := by decide +kernel
theorem dX6_dare_103 : decode cX6_dare 103 = .ok (.iinc 6 1, 3) := by decide +kernel
theorem dX6_dare_106 : decode cX6_dare 106 = .ok (.goto (-66), 3) := by decide +kernel
theorem dX6_dare_109 : decode cX6_dare 109 = .ok (.iload 4, 2) := by decide +kernel
theorem dX6_dare_111 : decode cX6_dare 111 = .ok (.ifCond .ne 6, 3) := by decide +kernel
theorem dX6_dare_114 : decode cX6_dare 114 = .ok (.bipush (-4), 2) := by decide +kernel
theorem dX6_dare_116 : decode cX6_dare 116 = .ok (.ireturn, 1) := by decide +kernel
theorem dX6_dare_117 : decode cX6_dare 117 = .ok (.iload_n 3, 1) := by decide +kernel
theorem dX6_dare_118 : decode cX6_dare 118 = .ok (.ifCond .ne 8, 3) := by decide +kernel
theorem dX6_dare_121 : decode cX6_dare 121 = .ok (.iload 5, 2) := by decide +kernel
theorem dX6_dare_123 : decode cX6_dare 123 = .ok (.goto 5, 3) := by decide +kernel
theorem dX6_dare_126 : decode cX6_dare 126 = .ok (.iload 4, 2) := by decide +kernel
theorem dX6_dare_128 : decode cX6_dare 128 = .ok (.ireturn, 1) := by decide +kernel
theorem dX6_drawn_0 : decode cX6_drawn 0 = .ok (.iload_n 1, 1) := by decide +kernel
theorem dX6_drawn_1 : decode cX6_drawn 1 = .ok (.iconst 0, 1) := by decide +kernel
theorem dX6_drawn_2 : decode cX6_drawn 2 = .ok (.sipush 9999, 3) := by decide +kernel
theorem dX6_drawn_5 : decode cX6_drawn 5 = .ok (.invokestatic 88, 3) := by decide +kernel
theorem dX6_drawn_8 : decode cX6_drawn 8 = .ok (.ifCond .eq 10, 3) := by decide +kernel
theorem dX6_drawn_11 : decode cX6_drawn 11 = .ok (.iload_n 2, 1) := by decide +kernel
theorem dX6_drawn_12 : decode cX6_drawn 12 = .ok (.invokestatic 129, 3) := by decide +kernel
theorem dX6_drawn_15 : decode cX6_drawn 15 = .ok (.ifCond .ne 5, 3) := by decide +kernel
theorem dX6_drawn_18 : decode cX6_drawn 18 = .ok (.iconst (-1), 1) := by decide +kernel
theorem dX6_drawn_19 : decode cX6_drawn 19 = .ok (.ireturn, 1) := by decide +kernel
theorem dX6_drawn_20 : decode cX6_drawn 20 = .ok (.aload_n 0, 1) := by decide +kernel
theorem dX6_drawn_21 : decode cX6_drawn 21 = .ok (.iload_n 1, 1) := by decide +kernel
theorem dX6_drawn_22 : decode cX6_drawn 22 = .ok (.iload_n 2, 1) := by decide +kernel
theorem dX6_drawn_23 : decode cX6_drawn 23 = .ok (.invokevirtual 220, 3) := by decide +kernel
theorem dX6_drawn_26 : decode cX6_drawn 26 = .ok (.ireturn, 1) := by decide +kernel
theorem dX6_ten_0 : decode cX6_ten 0 = .ok (.iload_n 1, 1) := by decide +kernel
theorem dX6_ten_1 : decode cX6_ten 1 = .ok (.iconst 0, 1) := by decide +kernel
theorem dX6_ten_2 : decode cX6_ten 2 = .ok (.sipush 9999, 3) := by decide +kernel
theorem dX6_ten_5 : decode cX6_ten 5 = .ok (.invokestatic 88, 3) := by decide +kernel
theorem dX6_ten_8 : decode cX6_ten 8 = .ok (.ifCond .eq 10, 3) := by decide +kernel
theorem dX6_ten_11 : decode cX6_ten 11 = .ok (.iload_n 2, 1) := by decide +kernel
theorem dX6_ten_12 : decode cX6_ten 12 = .ok (.invokestatic 129, 3) := by decide +kernel
theorem dX6_ten_15 : decode cX6_ten 15 = .ok (.ifCond .ne 5, 3) := by decide +kernel
theorem dX6_ten_18 : decode cX6_ten 18 = .ok (.iconst (-1), 1) := by decide +kernel
theorem dX6_ten_19 : decode cX6_ten 19 = .ok (.ireturn, 1) := by decide +kernel
theorem dX6_ten_20 : decode cX6_ten 20 = .ok (.iconst 0, 1) := by decide +kernel
theorem dX6_ten_21 : decode cX6_ten 21 = .ok (.istore_n 3, 1) := by decide +kernel
theorem dX6_ten_22 : decode cX6_ten 22 = .ok (.iconst 0, 1) := by decide +kernel
theorem dX6_ten_23 : decode cX6_ten 23 = .ok (.istore 4, 2) := by decide +kernel
theorem dX6_ten_25 : decode cX6_ten 25 = .ok (.iload 4, 2) := by decide +kernel
theorem dX6_ten_27 : decode cX6_ten 27 = .ok (.bipush 10, 2) := by decide +kernel
theorem dX6_ten_29 : decode cX6_ten 29 = .ok (.if_icmp .ge 33, 3) := by decide +kernel
theorem dX6_ten_32 : decode cX6_ten 32 = .ok (.iload_n 3, 1) := by decide +kernel
theorem dX6_ten_33 : decode cX6_ten 33 = .ok (.aload_n 0, 1) := by decide +kernel
theorem dX6_ten_34 : decode cX6_ten 34 = .ok (.iload_n 1, 1) := by decide +kernel
theorem dX6_ten_35 : decode cX6_ten 35 = .ok (.iload 4, 2) := by decide +kernel
theorem dX6_ten_37 : decode cX6_ten 37 = .ok (.iadd, 1) := by decide +kernel
theorem dX6_ten_38 : decode cX6_ten 38 = .ok (.sipush 10000, 3) := by decide +kernel
theorem dX6_ten_41 : decode cX6_ten 41 = .ok (.irem, 1) := by decide +kernel
theorem dX6_ten_42 : decode cX6_ten 42 = .ok (.iload_n 2, 1) := by decide +kernel
theorem dX6_ten_43 : decode cX6_ten 43 = .ok (.invokevirtual 220, 3) := by decide +kernel
theorem dX6_ten_46 : decode cX6_ten 46 = .ok (.ifCond .ne 7, 3) := by decide +kernel
theorem dX6_ten_49 : decode cX6_ten 49 = .ok (.iconst 1, 1) := by decide +kernel
theorem dX6_ten_50 : decode cX6_ten 50 = .ok (.goto 4, 3) := by decide +kernel
theorem dX6_ten_53 : decode cX6_ten 53 = .ok (.iconst 0, 1) := by decide +kernel
theorem dX6_ten_54 : decode cX6_ten 54 = .ok (.iadd, 1) := by decide +kernel
theorem dX6_ten_55 : decode cX6_ten 55 = .ok (.istore_n 3, 1) := by decide +kernel
theorem dX6_ten_56 : decode cX6_ten 56 = .ok (.iinc 4 1, 3) := by decide +kernel
theorem dX6_ten_59 : decode cX6_ten 59 = .ok (.goto (-34), 3) := by decide +kernel
theorem dX6_ten_62 : decode cX6_ten 62 = .ok (.iload_n 3, 1) := by decide +kernel
theorem dX6_ten_63 : decode cX6_ten 63 = .ok (.ireturn, 1) := by decide +kernel
theorem dX6_keep_0 : decode cX6_keep 0 = .ok (.aload_n 0, 1) := by decide +kernel
theorem dX6_keep_1 : decode cX6_keep 1 = .ok (.getfield 77, 3) := by decide +kernel
theorem dX6_keep_4 : decode cX6_keep 4 = .ok (.ifCond .lt 15, 3) := by decide +kernel
theorem dX6_keep_7 : decode cX6_keep 7 = .ok (.aload_n 0, 1) := by decide +kernel
theorem dX6_keep_8 : decode cX6_keep 8 = .ok (.getfield 77, 3) := by decide +kernel
theorem dX6_keep_11 : decode cX6_keep 11 = .ok (.aload_n 0, 1) := by decide +kernel
theorem dX6_keep_12 : decode cX6_keep 12 = .ok (.getfield 74, 3) := by decide +kernel
theorem dX6_keep_15 : decode cX6_keep 15 = .ok (.arraylength, 1) := by decide +kernel
theorem dX6_keep_16 : decode cX6_keep 16 = .ok (.if_icmp .lt 6, 3) := by decide +kernel
theorem dX6_keep_19 : decode cX6_keep 19 = .ok (.bipush (-3), 2) := by decide +kernel
theorem dX6_keep_21 : decode cX6_keep 21 = .ok (.ireturn, 1) := by decide +kernel
theorem dX6_keep_22 : decode cX6_keep 22 = .ok (.aload_n 0, 1) := by decide +kernel
theorem dX6_keep_23 : decode cX6_keep 23 = .ok (.getfield 74, 3) := by decide +kernel
theorem dX6_keep_26 : decode cX6_keep 26 = .ok (.aload_n 0, 1) := by decide +kernel
theorem dX6_keep_27 : decode cX6_keep 27 = .ok (.getfield 77, 3) := by decide +kernel
theorem dX6_keep_30 : decode cX6_keep 30 = .ok (.aload_n 0, 1) := by decide +kernel
theorem dX6_keep_31 : decode cX6_keep 31 = .ok (.getfield 85, 3) := by decide +kernel
theorem dX6_keep_34 : decode cX6_keep 34 = .ok (.iastore, 1) := by decide +kernel
theorem dX6_keep_35 : decode cX6_keep 35 = .ok (.aload_n 0, 1) := by decide +kernel
theorem dX6_keep_36 : decode cX6_keep 36 = .ok (.dup, 1) := by decide +kernel
theorem dX6_keep_37 : decode cX6_keep 37 = .ok (.getfield 77, 3) := by decide +kernel
theorem dX6_keep_40 : decode cX6_keep 40 = .ok (.iconst 1, 1) := by decide +kernel
theorem dX6_keep_41 : decode cX6_keep 41 = .ok (.iadd, 1) := by decide +kernel
theorem dX6_keep_42 : decode cX6_keep 42 = .ok (.putfield 77, 3) := by decide +kernel
theorem dX6_keep_45 : decode cX6_keep 45 = .ok (.aload_n 0, 1) := by decide +kernel
theorem dX6_keep_46 : decode cX6_keep 46 = .ok (.getfield 77, 3) := by decide +kernel
theorem dX6_keep_49 : decode cX6_keep 49 = .ok (.ireturn, 1) := by decide +kernel
theorem dX6_back_0 : decode cX6_back 0 = .ok (.aload_n 0, 1) := by decide +kernel
theorem dX6_back_1 : decode cX6_back 1 = .ok (.getfield 77, 3) := by decide +kernel
theorem dX6_back_4 : decode cX6_back 4 = .ok (.iconst 1, 1) := by decide +kernel
theorem dX6_back_5 : decode cX6_back 5 = .ok (.if_icmp .lt 15, 3) := by decide +kernel
theorem dX6_back_8 : decode cX6_back 8 = .ok (.aload_n 0, 1) := by decide +kernel
theorem dX6_back_9 : decode cX6_back 9 = .ok (.getfield 77, 3) := by decide +kernel
theorem dX6_back_12 : decode cX6_back 12 = .ok (.aload_n 0, 1) := by decide +kernel
theorem dX6_back_13 : decode cX6_back 13 = .ok (.getfield 74, 3) := by decide +kernel
theorem dX6_back_16 : decode cX6_back 16 = .ok (.arraylength, 1) := by decide +kernel
theorem dX6_back_17 : decode cX6_back 17 = .ok (.if_icmp .le 6, 3) := by decide +kernel
theorem dX6_back_20 : decode cX6_back 20 = .ok (.bipush (-2), 2) := by decide +kernel
theorem dX6_back_22 : decode cX6_back 22 = .ok (.ireturn, 1) := by decide +kernel
theorem dX6_back_23 : decode cX6_back 23 = .ok (.aload_n 0, 1) := by decide +kernel
theorem dX6_back_24 : decode cX6_back 24 = .ok (.dup, 1) := by decide +kernel
theorem dX6_back_25 : decode cX6_back 25 = .ok (.getfield 77, 3) := by decide +kernel
theorem dX6_back_28 : decode cX6_back 28 = .ok (.iconst 1, 1) := by decide +kernel
theorem dX6_back_29 : decode cX6_back 29 = .ok (.isub, 1) := by decide +kernel
theorem dX6_back_30 : decode cX6_back 30 = .ok (.putfield 77, 3) := by decide +kernel
theorem dX6_back_33 : decode cX6_back 33 = .ok (.aload_n 0, 1) := by decide +kernel
theorem dX6_back_34 : decode cX6_back 34 = .ok (.aload_n 0, 1) := by decide +kernel
theorem dX6_back_35 : decode cX6_back 35 = .ok (.getfield 74, 3) := by decide +kernel
theorem dX6_back_38 : decode cX6_back 38 = .ok (.aload_n 0, 1) := by decide +kernel
theorem dX6_back_39 : decode cX6_back 39 = .ok (.getfield 77, 3) := by decide +kernel
theorem dX6_back_42 : decode cX6_back 42 = .ok (.iaload, 1) := by decide +kernel
theorem dX6_back_43 : decode cX6_back 43 = .ok (.putfield 85, 3) := by decide +kernel
theorem dX6_back_46 : decode cX6_back 46 = .ok (.aload_n 0, 1) := by decide +kernel
theorem dX6_back_47 : decode cX6_back 47 = .ok (.getfield 77, 3) := by decide +kernel
theorem dX6_back_50 : decode cX6_back 50 = .ok (.ireturn, 1) := by decide +kernel
theorem dX6_count_0 : decode cX6_count 0 = .ok (.iload_n 1, 1) := by decide +kernel
theorem dX6_count_1 : decode cX6_count 1 = .ok (.tableswitch 72 0 4 #[35, 43, 51, 59, 67], 35) := by decide +kernel
theorem dX6_count_36 : decode cX6_count 36 = .ok (.aload_n 0, 1) := by decide +kernel
theorem dX6_count_37 : decode cX6_count 37 = .ok (.getfield 28, 3) := by decide +kernel
theorem dX6_count_40 : decode cX6_count 40 = .ok (.invokevirtual 106, 3) := by decide +kernel
theorem dX6_count_43 : decode cX6_count 43 = .ok (.ireturn, 1) := by decide +kernel
theorem dX6_count_44 : decode cX6_count 44 = .ok (.aload_n 0, 1) := by decide +kernel
theorem dX6_count_45 : decode cX6_count 45 = .ok (.getfield 28, 3) := by decide +kernel
theorem dX6_count_48 : decode cX6_count 48 = .ok (.invokevirtual 109, 3) := by decide +kernel
theorem dX6_count_51 : decode cX6_count 51 = .ok (.ireturn, 1) := by decide +kernel
theorem dX6_count_52 : decode cX6_count 52 = .ok (.aload_n 0, 1) := by decide +kernel
theorem dX6_count_53 : decode cX6_count 53 = .ok (.getfield 10, 3) := by decide +kernel
theorem dX6_count_56 : decode cX6_count 56 = .ok (.invokevirtual 96, 3) := by decide +kernel
theorem dX6_count_59 : decode cX6_count 59 = .ok (.ireturn, 1) := by decide +kernel
theorem dX6_count_60 : decode cX6_count 60 = .ok (.aload_n 0, 1) := by decide +kernel
theorem dX6_count_61 : decode cX6_count 61 = .ok (.getfield 85, 3) := by decide +kernel
theorem dX6_count_64 : decode cX6_count 64 = .ok (.invokestatic 161, 3) := by decide +kernel
theorem dX6_count_67 : decode cX6_count 67 = .ok (.ireturn, 1) := by decide +kernel
theorem dX6_count_68 : decode cX6_count 68 = .ok (.aload_n 0, 1) := by decide +kernel
theorem dX6_count_69 : decode cX6_count 69 = .ok (.getfield 77, 3) := by decide +kernel
theorem dX6_count_72 : decode cX6_count 72 = .ok (.ireturn, 1) := by decide +kernel
theorem dX6_count_73 : decode cX6_count 73 = .ok (.iconst (-1), 1) := by decide +kernel
theorem dX6_count_74 : decode cX6_count 74 = .ok (.ireturn, 1) := by decide +kernel
theorem dX6_betters_0 : decode cX6_betters 0 = .ok (.aload_n 0, 1) := by decide +kernel
theorem dX6_betters_1 : decode cX6_betters 1 = .ok (.getfield 65, 3) := by decide +kernel
theorem dX6_betters_4 : decode cX6_betters 4 = .ok (.iload_n 1, 1) := by decide +kernel
theorem dX6_betters_5 : decode cX6_betters 5 = .ok (.iaload, 1) := by decide +kernel
theorem dX6_betters_6 : decode cX6_betters 6 = .ok (.aload_n 0, 1) := by decide +kernel
theorem dX6_betters_7 : decode cX6_betters 7 = .ok (.getfield 65, 3) := by decide +kernel
theorem dX6_betters_10 : decode cX6_betters 10 = .ok (.iload_n 2, 1) := by decide +kernel
theorem dX6_betters_11 : decode cX6_betters 11 = .ok (.iaload, 1) := by decide +kernel
theorem dX6_betters_12 : decode cX6_betters 12 = .ok (.isub, 1) := by decide +kernel
theorem dX6_betters_13 : decode cX6_betters 13 = .ok (.istore_n 3, 1) := by decide +kernel
theorem dX6_betters_14 : decode cX6_betters 14 = .ok (.aload_n 0, 1) := by decide +kernel
theorem dX6_betters_15 : decode cX6_betters 15 = .ok (.getfield 68, 3) := by decide +kernel
theorem dX6_betters_18 : decode cX6_betters 18 = .ok (.iload_n 2, 1) := by decide +kernel
theorem dX6_betters_19 : decode cX6_betters 19 = .ok (.iaload, 1) := by decide +kernel
theorem dX6_betters_20 : decode cX6_betters 20 = .ok (.aload_n 0, 1) := by decide +kernel
theorem dX6_betters_21 : decode cX6_betters 21 = .ok (.getfield 68, 3) := by decide +kernel
theorem dX6_betters_24 : decode cX6_betters 24 = .ok (.iload_n 1, 1) := by decide +kernel
theorem dX6_betters_25 : decode cX6_betters 25 = .ok (.iaload, 1) := by decide +kernel
theorem dX6_betters_26 : decode cX6_betters 26 = .ok (.isub, 1) := by decide +kernel
theorem dX6_betters_27 : decode cX6_betters 27 = .ok (.istore 4, 2) := by decide +kernel
theorem dX6_betters_29 : decode cX6_betters 29 = .ok (.aload_n 0, 1) := by decide +kernel
theorem dX6_betters_30 : decode cX6_betters 30 = .ok (.getfield 71, 3) := by decide +kernel
theorem dX6_betters_33 : decode cX6_betters 33 = .ok (.iload_n 2, 1) := by decide +kernel
theorem dX6_betters_34 : decode cX6_betters 34 = .ok (.iaload, 1) := by decide +kernel
theorem dX6_betters_35 : decode cX6_betters 35 = .ok (.aload_n 0, 1) := by decide +kernel
theorem dX6_betters_36 : decode cX6_betters 36 = .ok (.getfield 71, 3) := by decide +kernel
theorem dX6_betters_39 : decode cX6_betters 39 = .ok (.iload_n 1, 1) := by decide +kernel
theorem dX6_betters_40 : decode cX6_betters 40 = .ok (.iaload, 1) := by decide +kernel
theorem dX6_betters_41 : decode cX6_betters 41 = .ok (.isub, 1) := by decide +kernel
theorem dX6_betters_42 : decode cX6_betters 42 = .ok (.istore 5, 2) := by decide +kernel
theorem dX6_betters_44 : decode cX6_betters 44 = .ok (.iload_n 3, 1) := by decide +kernel
theorem dX6_betters_45 : decode cX6_betters 45 = .ok (.ifCond .lt 27, 3) := by decide +kernel
theorem dX6_betters_48 : decode cX6_betters 48 = .ok (.iload 4, 2) := by decide +kernel
theorem dX6_betters_50 : decode cX6_betters 50 = .ok (.ifCond .lt 22, 3) := by decide +kernel
theorem dX6_betters_53 : decode cX6_betters 53 = .ok (.iload 5, 2) := by decide +kernel
theorem dX6_betters_55 : decode cX6_betters 55 = .ok (.ifCond .lt 17, 3) := by decide +kernel
theorem dX6_betters_58 : decode cX6_betters 58 = .ok (.iload_n 3, 1) := by decide +kernel
theorem dX6_betters_59 : decode cX6_betters 59 = .ok (.iload 4, 2) := by decide +kernel
theorem dX6_betters_61 : decode cX6_betters 61 = .ok (.iadd, 1) := by decide +kernel
theorem dX6_betters_62 : decode cX6_betters 62 = .ok (.iload 5, 2) := by decide +kernel
theorem dX6_betters_64 : decode cX6_betters 64 = .ok (.iadd, 1) := by decide +kernel
theorem dX6_betters_65 : decode cX6_betters 65 = .ok (.ifCond .le 7, 3) := by decide +kernel
theorem dX6_betters_68 : decode cX6_betters 68 = .ok (.iconst 1, 1) := by decide +kernel
theorem dX6_betters_69 : decode cX6_betters 69 = .ok (.goto 4, 3) := by decide +kernel
theorem dX6_betters_72 : decode cX6_betters 72 = .ok (.iconst 0, 1) := by decide +kernel
theorem dX6_betters_73 : decode cX6_betters 73 = .ok (.ireturn, 1) := by decide +kernel
theorem dX6_runWhole_0 : decode cX6_runWhole 0 = .ok (.aload_n 0, 1) := by decide +kernel
theorem dX6_runWhole_1 : decode cX6_runWhole 1 = .ok (.getfield 52, 3) := by decide +kernel
theorem dX6_runWhole_4 : decode cX6_runWhole 4 = .ok (.aload_n 0, 1) := by decide +kernel
theorem dX6_runWhole_5 : decode cX6_runWhole 5 = .ok (.getfield 28, 3) := by decide +kernel
theorem dX6_runWhole_8 : decode cX6_runWhole 8 = .ok (.iload_n 1, 1) := by decide +kernel
theorem dX6_runWhole_9 : decode cX6_runWhole 9 = .ok (.aload_n 0, 1) := by decide +kernel
theorem dX6_runWhole_10 : decode cX6_runWhole 10 = .ok (.getfield 85, 3) := by decide +kernel
theorem dX6_runWhole_13 : decode cX6_runWhole 13 = .ok (.invokevirtual 132, 3) := by decide +kernel
theorem dX6_runWhole_16 : decode cX6_runWhole 16 = .ok (.aload_n 0, 1) := by decide +kernel
theorem dX6_runWhole_17 : decode cX6_runWhole 17 = .ok (.getfield 52, 3) := by decide +kernel
theorem dX6_runWhole_20 : decode cX6_runWhole 20 = .ok (.sipush 399, 3) := by decide +kernel
theorem dX6_runWhole_23 : decode cX6_runWhole 23 = .ok (.invokevirtual 136, 3) := by decide +kernel
theorem dX6_runWhole_26 : decode cX6_runWhole 26 = .ok (.return_, 1) := by decide +kernel
theorem dX6_shutOutByCards_0 : decode cX6_shutOutByCards 0 = .ok (.aload_n 0, 1) := by decide +kernel
theorem dX6_shutOutByCards_1 : decode cX6_shutOutByCards 1 = .ok (.getfield 52, 3) := by decide +kernel
theorem dX6_shutOutByCards_4 : decode cX6_shutOutByCards 4 = .ok (.aload_n 0, 1) := by decide +kernel
theorem dX6_shutOutByCards_5 : decode cX6_shutOutByCards 5 = .ok (.getfield 28, 3) := by decide +kernel
theorem dX6_shutOutByCards_8 : decode cX6_shutOutByCards 8 = .ok (.iconst 2, 1) := by decide +kernel
theorem dX6_shutOutByCards_9 : decode cX6_shutOutByCards 9 = .ok (.aload_n 0, 1) := by decide +kernel
theorem dX6_shutOutByCards_10 : decode cX6_shutOutByCards 10 = .ok (.getfield 85, 3) := by decide +kernel
theorem dX6_shutOutByCards_13 : decode cX6_shutOutByCards 13 = .ok (.invokevirtual 132, 3) := by decide +kernel
theorem dX6_shutOutByCards_16 : decode cX6_shutOutByCards 16 = .ok (.aload_n 0, 1) := by decide +kernel
theorem dX6_shutOutByCards_17 : decode cX6_shutOutByCards 17 = .ok (.getfield 52, 3) := by decide +kernel
theorem dX6_shutOutByCards_20 : decode cX6_shutOutByCards 20 = .ok (.iload_n 1, 1) := by decide +kernel
theorem dX6_shutOutByCards_21 : decode cX6_shutOutByCards 21 = .ok (.iload_n 2, 1) := by decide +kernel
theorem dX6_shutOutByCards_22 : decode cX6_shutOutByCards 22 = .ok (.invokevirtual 223, 3) := by decide +kernel
theorem dX6_shutOutByCards_25 : decode cX6_shutOutByCards 25 = .ok (.aload_n 0, 1) := by decide +kernel
theorem dX6_shutOutByCards_26 : decode cX6_shutOutByCards 26 = .ok (.getfield 52, 3) := by decide +kernel
theorem dX6_shutOutByCards_29 : decode cX6_shutOutByCards 29 = .ok (.sipush 399, 3) := by decide +kernel
theorem dX6_shutOutByCards_32 : decode cX6_shutOutByCards 32 = .ok (.invokevirtual 136, 3) := by decide +kernel
theorem dX6_shutOutByCards_35 : decode cX6_shutOutByCards 35 = .ok (.aload_n 0, 1) := by decide +kernel
theorem dX6_shutOutByCards_36 : decode cX6_shutOutByCards 36 = .ok (.getfield 52, 3) := by decide +kernel
theorem dX6_shutOutByCards_39 : decode cX6_shutOutByCards 39 = .ok (.invokevirtual 158, 3) := by decide +kernel
theorem dX6_shutOutByCards_42 : decode cX6_shutOutByCards 42 = .ok (.invokestatic 161, 3) := by decide +kernel
theorem dX6_shutOutByCards_45 : decode cX6_shutOutByCards 45 = .ok (.ireturn, 1) := by decide +kernel
theorem dX6_shutOutByDraw_0 : decode cX6_shutOutByDraw 0 = .ok (.aload_n 0, 1) := by decide +kernel
theorem dX6_shutOutByDraw_1 : decode cX6_shutOutByDraw 1 = .ok (.getfield 52, 3) := by decide +kernel
theorem dX6_shutOutByDraw_4 : decode cX6_shutOutByDraw 4 = .ok (.aload_n 0, 1) := by decide +kernel
theorem dX6_shutOutByDraw_5 : decode cX6_shutOutByDraw 5 = .ok (.getfield 28, 3) := by decide +kernel
theorem dX6_shutOutByDraw_8 : decode cX6_shutOutByDraw 8 = .ok (.iload_n 2, 1) := by decide +kernel
theorem dX6_shutOutByDraw_9 : decode cX6_shutOutByDraw 9 = .ok (.aload_n 0, 1) := by decide +kernel
theorem dX6_shutOutByDraw_10 : decode cX6_shutOutByDraw 10 = .ok (.getfield 85, 3) := by decide +kernel
theorem dX6_shutOutByDraw_13 : decode cX6_shutOutByDraw 13 = .ok (.invokevirtual 132, 3) := by decide +kernel
theorem dX6_shutOutByDraw_16 : decode cX6_shutOutByDraw 16 = .ok (.aload_n 0, 1) := by decide +kernel
theorem dX6_shutOutByDraw_17 : decode cX6_shutOutByDraw 17 = .ok (.getfield 52, 3) := by decide +kernel
theorem dX6_shutOutByDraw_20 : decode cX6_shutOutByDraw 20 = .ok (.iload_n 1, 1) := by decide +kernel
theorem dX6_shutOutByDraw_21 : decode cX6_shutOutByDraw 21 = .ok (.invokevirtual 227, 3) := by decide +kernel
theorem dX6_shutOutByDraw_24 : decode cX6_shutOutByDraw 24 = .ok (.aload_n 0, 1) := by decide +kernel
theorem dX6_shutOutByDraw_25 : decode cX6_shutOutByDraw 25 = .ok (.getfield 52, 3) := by decide +kernel
theorem dX6_shutOutByDraw_28 : decode cX6_shutOutByDraw 28 = .ok (.sipush 399, 3) := by decide +kernel
theorem dX6_shutOutByDraw_31 : decode cX6_shutOutByDraw 31 = .ok (.invokevirtual 136, 3) := by decide +kernel
theorem dX6_shutOutByDraw_34 : decode cX6_shutOutByDraw 34 = .ok (.aload_n 0, 1) := by decide +kernel
theorem dX6_shutOutByDraw_35 : decode cX6_shutOutByDraw 35 = .ok (.getfield 52, 3) := by decide +kernel
theorem dX6_shutOutByDraw_38 : decode cX6_shutOutByDraw 38 = .ok (.invokevirtual 158, 3) := by decide +kernel
theorem dX6_shutOutByDraw_41 : decode cX6_shutOutByDraw 41 = .ok (.invokestatic 161, 3) := by decide +kernel
theorem dX6_shutOutByDraw_44 : decode cX6_shutOutByDraw 44 = .ok (.ireturn, 1) := by decide +kernel
theorem dX6_isReader_0 : decode cX6_isReader 0 = .ok (.iload_n 1, 1) := by decide +kernel
theorem dX6_isReader_1 : decode cX6_isReader 1 = .ok (.iconst 0, 1) := by decide +kernel
theorem dX6_isReader_2 : decode cX6_isReader 2 = .ok (.aload_n 0, 1) := by decide +kernel
theorem dX6_isReader_3 : decode cX6_isReader 3 = .ok (.getfield 28, 3) := by decide +kernel
theorem dX6_isReader_6 : decode cX6_isReader 6 = .ok (.invokevirtual 109, 3) := by decide +kernel
theorem dX6_isReader_9 : decode cX6_isReader 9 = .ok (.iconst 1, 1) := by decide +kernel
theorem dX6_isReader_10 : decode cX6_isReader 10 = .ok (.isub, 1) := by decide +kernel
theorem dX6_isReader_11 : decode cX6_isReader 11 = .ok (.invokestatic 88, 3) := by decide +kernel
theorem dX6_isReader_14 : decode cX6_isReader 14 = .ok (.ireturn, 1) := by decide +kernel
theorem dX6_isSeat_0 : decode cX6_isSeat 0 = .ok (.iload_n 1, 1) := by decide +kernel
theorem dX6_isSeat_1 : decode cX6_isSeat 1 = .ok (.iconst 0, 1) := by decide +kernel
theorem dX6_isSeat_2 : decode cX6_isSeat 2 = .ok (.aload_n 0, 1) := by decide +kernel
theorem dX6_isSeat_3 : decode cX6_isSeat 3 = .ok (.getfield 28, 3) := by decide +kernel
theorem dX6_isSeat_6 : decode cX6_isSeat 6 = .ok (.invokevirtual 106, 3) := by decide +kernel
theorem dX6_isSeat_9 : decode cX6_isSeat 9 = .ok (.iconst 1, 1) := by decide +kernel
theorem dX6_isSeat_10 : decode cX6_isSeat 10 = .ok (.isub, 1) := by decide +kernel
theorem dX6_isSeat_11 : decode cX6_isSeat 11 = .ok (.invokestatic 88, 3) := by decide +kernel
theorem dX6_isSeat_14 : decode cX6_isSeat 14 = .ok (.ireturn, 1) := by decide +kernel
theorem dX6_isRule_0 : decode cX6_isRule 0 = .ok (.iload_n 0, 1) := by decide +kernel
theorem dX6_isRule_1 : decode cX6_isRule 1 = .ok (.iconst 0, 1) := by decide +kernel
theorem dX6_isRule_2 : decode cX6_isRule 2 = .ok (.iconst 4, 1) := by decide +kernel
theorem dX6_isRule_3 : decode cX6_isRule 3 = .ok (.invokestatic 88, 3) := by decide +kernel
theorem dX6_isRule_6 : decode cX6_isRule 6 = .ok (.ireturn, 1) := by decide +kernel
theorem dX6_within_0 : decode cX6_within 0 = .ok (.iload_n 1, 1) := by decide +kernel
theorem dX6_within_1 : decode cX6_within 1 = .ok (.iload_n 0, 1) := by decide +kernel
theorem dX6_within_2 : decode cX6_within 2 = .ok (.if_icmp .gt 12, 3) := by decide +kernel
theorem dX6_within_5 : decode cX6_within 5 = .ok (.iload_n 0, 1) := by decide +kernel
theorem dX6_within_6 : decode cX6_within 6 = .ok (.iload_n 2, 1) := by decide +kernel
theorem dX6_within_7 : decode cX6_within 7 = .ok (.if_icmp .gt 7, 3) := by decide +kernel
theorem dX6_within_10 : decode cX6_within 10 = .ok (.iconst 1, 1) := by decide +kernel
theorem dX6_within_11 : decode cX6_within 11 = .ok (.goto 4, 3) := by decide +kernel
theorem dX6_within_14 : decode cX6_within 14 = .ok (.iconst 0, 1) := by decide +kernel
theorem dX6_within_15 : decode cX6_within 15 = .ok (.ireturn, 1) := by decide +kernel
end
section
theorem dX7_init_0 : decode cX7_init 0 = .ok (.aload_n 0, 1) := by decide +kernel
theorem dX7_init_1 : decode cX7_init 1 = .ok (.invokespecial 1, 3) := by decide +kernel
theorem dX7_init_4 : decode cX7_init 4 = .ok (.aload_n 0, 1) := by decide +kernel
theorem dX7_init_5 : decode cX7_init 5 = .ok (.sipush 400, 3) := by decide +kernel
theorem dX7_init_8 : decode cX7_init 8 = .ok (.newarray .byte, 2) := by decide +kernel
theorem dX7_init_10 : decode cX7_init 10 = .ok (.putfield 7, 3) := by decide +kernel
theorem dX7_init_13 : decode cX7_init 13 = .ok (.aload_n 0, 1) := by decide +kernel
theorem dX7_init_14 : decode cX7_init 14 = .ok (.iconst 2, 1) := by decide +kernel
theorem dX7_init_15 : decode cX7_init 15 = .ok (.newarray .int, 2) := by decide +kernel
theorem dX7_init_17 : decode cX7_init 17 = .ok (.putfield 13, 3) := by decide +kernel
theorem dX7_init_20 : decode cX7_init 20 = .ok (.aload_n 0, 1) := by decide +kernel
theorem dX7_init_21 : decode cX7_init 21 = .ok (.iconst 2, 1) := by decide +kernel
theorem dX7_init_22 : decode cX7_init 22 = .ok (.newarray .int, 2) := by decide +kernel
theorem dX7_init_24 : decode cX7_init 24 = .ok (.putfield 17, 3) := by decide +kernel
theorem dX7_init_27 : decode cX7_init 27 = .ok (.aload_n 0, 1) := by decide +kernel
theorem dX7_init_28 : decode cX7_init 28 = .ok (.bipush 20, 2) := by decide +kernel
theorem dX7_init_30 : decode cX7_init 30 = .ok (.newarray .int, 2) := by decide +kernel
theorem dX7_init_32 : decode cX7_init 32 = .ok (.putfield 20, 3) := by decide +kernel
theorem dX7_init_35 : decode cX7_init 35 = .ok (.aload_n 0, 1) := by decide +kernel
theorem dX7_init_36 : decode cX7_init 36 = .ok (.bipush 112, 2) := by decide +kernel
theorem dX7_init_38 : decode cX7_init 38 = .ok (.newarray .int, 2) := by decide +kernel
theorem dX7_init_40 : decode cX7_init 40 = .ok (.putfield 23, 3) := by decide +kernel
theorem dX7_init_43 : decode cX7_init 43 = .ok (.aload_n 0, 1) := by decide +kernel
theorem dX7_init_44 : decode cX7_init 44 = .ok (.bipush 10, 2) := by decide +kernel
theorem dX7_init_46 : decode cX7_init 46 = .ok (.newarray .int, 2) := by decide +kernel
theorem dX7_init_48 : decode cX7_init 48 = .ok (.putfield 26, 3) := by decide +kernel
theorem dX7_init_51 : decode cX7_init 51 = .ok (.aload_n 0, 1) := by decide +kernel
theorem dX7_init_52 : decode cX7_init 52 = .ok (.iconst 2, 1) := by decide +kernel
theorem dX7_init_53 : decode cX7_init 53 = .ok (.newarray .int, 2) := by decide +kernel
theorem dX7_init_55 : decode cX7_init 55 = .ok (.putfield 29, 3) := by decide +kernel
theorem dX7_init_58 : decode cX7_init 58 = .ok (.aload_n 0, 1) := by decide +kernel
theorem dX7_init_59 : decode cX7_init 59 = .ok (.bipush 8, 2) := by decide +kernel
theorem dX7_init_61 : decode cX7_init 61 = .ok (.newarray .int, 2) := by decide +kernel
theorem dX7_init_63 : decode cX7_init 63 = .ok (.putfield 32, 3) := by decide +kernel
theorem dX7_init_66 : decode cX7_init 66 = .ok (.aload_n 0, 1) := by decide +kernel
theorem dX7_init_67 : decode cX7_init 67 = .ok (.bipush 8, 2) := by decide +kernel
theorem dX7_init_69 : decode cX7_init 69 = .ok (.newarray .int, 2) := by decide +kernel
theorem dX7_init_71 : decode cX7_init 71 = .ok (.putfield 35, 3) := by decide +kernel
theorem dX7_init_74 : decode cX7_init 74 = .ok (.aload_n 0, 1) := by decide +kernel
theorem dX7_init_75 : decode cX7_init 75 = .ok (.bipush 8, 2) := by decide +kernel
theorem dX7_init_77 : decode cX7_init 77 = .ok (.newarray .int, 2) := by decide +kernel
theorem dX7_init_79 : decode cX7_init 79 = .ok (.putfield 38, 3) := by decide +kernel
theorem dX7_init_82 : decode cX7_init 82 = .ok (.aload_n 0, 1) := by decide +kernel
theorem dX7_init_83 : decode cX7_init 83 = .ok (.bipush 8, 2) := by decide +kernel
theorem dX7_init_85 : decode cX7_init 85 = .ok (.newarray .int, 2) := by decide +kernel
theorem dX7_init_87 : decode cX7_init 87 = .ok (.putfield 41, 3) := by decide +kernel
theorem dX7_init_90 : decode cX7_init 90 = .ok (.aload_n 0, 1) := by decide +kernel
theorem dX7_init_91 : decode cX7_init 91 = .ok (.bipush 8, 2) := by decide +kernel
theorem dX7_init_93 : decode cX7_init 93 = .ok (.newarray .int, 2) := by decide +kernel
theorem dX7_init_95 : decode cX7_init 95 = .ok (.putfield 44, 3) := by decide +kernel
theorem dX7_init_98 : decode cX7_init 98 = .ok (.aload_n 0, 1) := by decide +kernel
theorem dX7_init_99 : decode cX7_init 99 = .ok (.bipush 8, 2) := by decide +kernel
theorem dX7_init_101 : decode cX7_init 101 = .ok (.newarray .boolean, 2) := by decide +kernel
theorem dX7_init_103 : decode cX7_init 103 = .ok (.putfield 47, 3) := by decide +kernel
theorem dX7_init_106 : decode cX7_init 106 = .ok (.aload_n 0, 1) := by decide +kernel
theorem dX7_init_107 : decode cX7_init 107 = .ok (.bipush 8, 2) := by decide +kernel
theorem dX7_init_109 : decode cX7_init 109 = .ok (.newarray .int, 2) := by decide +kernel
theorem dX7_init_111 : decode cX7_init 111 = .ok (.putfield 51, 3) := by decide +kernel
theorem dX7_init_114 : decode cX7_init 114 = .ok (.aload_n 0, 1) := by decide +kernel
theorem dX7_init_115 : decode cX7_init 115 = .ok (.bipush 10, 2) := by decide +kernel
theorem dX7_init_117 : decode cX7_init 117 = .ok (.newarray .int, 2) := by decide +kernel
theorem dX7_init_119 : decode cX7_init 119 = .ok (.putfield 54, 3) := by decide +kernel
theorem dX7_init_122 : decode cX7_init 122 = .ok (.aload_n 0, 1) := by decide +kernel
theorem dX7_init_123 : decode cX7_init 123 = .ok (.bipush 10, 2) := by decide +kernel
theorem dX7_init_125 : decode cX7_init 125 = .ok (.newarray .int, 2) := by decide +kernel
theorem dX7_init_127 : decode cX7_init 127 = .ok (.putfield 57, 3) := by decide +kernel
theorem dX7_init_130 : decode cX7_init 130 = .ok (.aload_n 0, 1) := by decide +kernel
theorem dX7_init_131 : decode cX7_init 131 = .ok (.sipush 400, 3) := by decide +kernel
theorem dX7_init_134 : decode cX7_init 134 = .ok (.newarray .int, 2) := by decide +kernel
theorem dX7_init_136 : decode cX7_init 136 = .ok (.putfield 60, 3) := by decide +kernel
theorem dX7_init_139 : decode cX7_init 139 = .ok (.aload_n 0, 1) := by decide +kernel
theorem dX7_init_140 : decode cX7_init 140 = .ok (.sipush 2048, 3) := by decide +kernel
theorem dX7_init_143 : decode cX7_init 143 = .ok (.newarray .int, 2) := by decide +kernel
theorem dX7_init_145 : decode cX7_init 145 = .ok (.putfield 63, 3) := by decide +kernel
theorem dX7_init_148 : decode cX7_init 148 = .ok (.aload_n 0, 1) := by decide +kernel
theorem dX7_init_149 : decode cX7_init 149 = .ok (.bipush 15, 2) := by decide +kernel
theorem dX7_init_151 : decode cX7_init 151 = .ok (.newarray .int, 2) := by decide +kernel
theorem dX7_init_153 : decode cX7_init 153 = .ok (.putfield 66, 3) := by decide +kernel
theorem dX7_init_156 : decode cX7_init 156 = .ok (.aload_n 0, 1) := by decide +kernel
theorem dX7_init_157 : decode cX7_init 157 = .ok (.bipush 7, 2) := by decide +kernel
theorem dX7_init_159 : decode cX7_init 159 = .ok (.newarray .int, 2) := by decide +kernel
theorem dX7_init_161 : decode cX7_init 161 = .ok (.putfield 69, 3) := by decide +kernel
theorem dX7_init_164 : decode cX7_init 164 = .ok (.aload_n 0, 1) := by decide +kernel
theorem dX7_init_165 : decode cX7_init 165 = .ok (.invokevirtual 72, 3) := by decide +kernel
theorem dX7_init_168 : decode cX7_init 168 = .ok (.aload_n 0, 1) := by decide +kernel
theorem dX7_init_169 : decode cX7_init 169 = .ok (.getfield 13, 3) := by decide +kernel
theorem dX7_init_172 : decode cX7_init 172 = .ok (.iconst 1, 1) := by decide +kernel
theorem dX7_init_173 : decode cX7_init 173 = .ok (.iconst 1, 1) := by decide +kernel
theorem dX7_init_174 : decode cX7_init 174 = .ok (.iastore, 1) := by decide +kernel
theorem dX7_init_175 : decode cX7_init 175 = .ok (.aload_n 0, 1) := by decide +kernel
theorem dX7_init_176 : decode cX7_init 176 = .ok (.getfield 17, 3) := by decide +kernel
theorem dX7_init_179 : decode cX7_init 179 = .ok (.iconst 1, 1) := by decide +kernel
theorem dX7_init_180 : decode cX7_init 180 = .ok (.iconst 1, 1) := by decide +kernel
theorem dX7_init_181 : decode cX7_init 181 = .ok (.iastore, 1) := by decide +kernel
theorem dX7_init_182 : decode cX7_init 182 = .ok (.aload_n 0, 1) := by decide +kernel
theorem dX7_init_183 : decode cX7_init 183 = .ok (.getfield 23, 3) := by decide +kernel
theorem dX7_init_186 : decode cX7_init 186 = .ok (.bipush 56, 2) := by decide +kernel
theorem dX7_init_188 : decode cX7_init 188 = .ok (.iconst 0, 1) := by decide +kernel
theorem dX7_init_189 : decode cX7_init 189 = .ok (.iastore, 1) := by decide +kernel
theorem dX7_init_190 : decode cX7_init 190 = .ok (.aload_n 0, 1) := by decide +kernel
theorem dX7_init_191 : decode cX7_init 191 = .ok (.getfield 23, 3) := by decide +kernel
theorem dX7_init_194 : decode cX7_init 194 = .ok (.bipush 57, 2) := by decide +kernel
theorem dX7_init_196 : decode cX7_init 196 = .ok (.bipush 60, 2) := by decide +kernel
theorem dX7_init_198 : decode cX7_init 198 = .ok (.iastore, 1) := by decide +kernel
theorem dX7_init_199 : decode cX7_init 199 = .ok (.aload_n 0, 1) := by decide +kernel
theorem dX7_init_200 : decode cX7_init 200 = .ok (.getfield 23, 3) := by decide +kernel
theorem dX7_init_203 : decode cX7_init 203 = .ok (.bipush 58, 2) := by decide +kernel
theorem dX7_init_205 : decode cX7_init 205 = .ok (.bipush 30, 2) := by decide +kernel
theorem dX7_init_207 : decode cX7_init 207 = .ok (.iastore, 1) := by decide +kernel
theorem dX7_init_208 : decode cX7_init 208 = .ok (.aload_n 0, 1) := by decide +kernel
theorem dX7_init_209 : decode cX7_init 209 = .ok (.getfield 23, 3) := by decide +kernel
theorem dX7_init_212 : decode cX7_init 212 = .ok (.bipush 59, 2) := by decide +kernel
theorem dX7_init_214 : decode cX7_init 214 = .ok (.bipush 10, 2) := by decide +kernel
theorem dX7_init_216 : decode cX7_init 216 = .ok (.iastore, 1) := by decide +kernel
theorem dX7_init_217 : decode cX7_init 217 = .ok (.aload_n 0, 1) := by decide +kernel
theorem dX7_init_218 : decode cX7_init 218 = .ok (.getfield 23, 3) := by decide +kernel
theorem dX7_init_221 : decode cX7_init 221 = .ok (.bipush 60, 2) := by decide +kernel
theorem dX7_init_223 : decode cX7_init 223 = .ok (.iconst 0, 1) := by decide +kernel
theorem dX7_init_224 : decode cX7_init 224 = .ok (.iastore, 1) := by decide +kernel
theorem dX7_init_225 : decode cX7_init 225 = .ok (.aload_n 0, 1) := by decide +kernel
theorem dX7_init_226 : decode cX7_init 226 = .ok (.getfield 23, 3) := by decide +kernel
theorem dX7_init_229 : decode cX7_init 229 = .ok (.bipush 61, 2) := by decide +kernel
theorem dX7_init_231 : decode cX7_init 231 = .ok (.iconst 5, 1) := by decide +kernel
theorem dX7_init_232 : decode cX7_init 232 = .ok (.iastore, 1) := by decide +kernel
theorem dX7_init_233 : decode cX7_init 233 = .ok (.aload_n 0, 1) := by decide +kernel
theorem dX7_init_234 : decode cX7_init 234 = .ok (.getfield 23, 3) := by decide +kernel
theorem dX7_init_237 : decode cX7_init 237 = .ok (.bipush 62, 2) := by decide +kernel
theorem dX7_init_239 : decode cX7_init 239 = .ok (.iconst 5, 1) := by decide +kernel
theorem dX7_init_240 : decode cX7_init 240 = .ok (.iastore, 1) := by decide +kernel
theorem dX7_init_241 : decode cX7_init 241 = .ok (.aload_n 0, 1) := by decide +kernel
theorem dX7_init_242 : decode cX7_init 242 = .ok (.invokevirtual 75, 3) := by decide +kernel
theorem dX7_init_245 : decode cX7_init 245 = .ok (.return_, 1) := by decide +kernel
theorem dX7_in_0 : decode cX7_in 0 = .ok (.lload_n 0, 1) := by decide +kernel
theorem dX7_in_1 : decode cX7_in 1 = .ok (.lload_n 2, 1) := by decide +kernel
theorem dX7_in_2 : decode cX7_in 2 = .ok (.lcmp, 1) := by decide +kernel
theorem dX7_in_3 : decode cX7_in 3 = .ok (.ifCond .lt 14, 3) := by decide +kernel
theorem dX7_in_6 : decode cX7_in 6 = .ok (.lload_n 0, 1) := by decide +kernel
theorem dX7_in_7 : decode cX7_in 7 = .ok (.lload 4, 2) := by decide +kernel
theorem dX7_in_9 : decode cX7_in 9 = .ok (.lcmp, 1) := by decide +kernel
theorem dX7_in_10 : decode cX7_in 10 = .ok (.ifCond .gt 7, 3) := by decide +kernel
theorem dX7_in_13 : decode cX7_in 13 = .ok (.iconst 1, 1) := by decide +kernel
theorem dX7_in_14 : decode cX7_in 14 = .ok (.goto 4, 3) := by decide +kernel
theorem dX7_in_17 : decode cX7_in 17 = .ok (.iconst 0, 1) := by decide +kernel
theorem dX7_in_18 : decode cX7_in 18 = .ok (.ireturn, 1) := by decide +kernel
theorem dX7_write_0 : decode cX7_write 0 = .ok (.iload_n 1, 1) := by decide +kernel
theorem dX7_write_1 : decode cX7_write 1 = .ok (.i2l, 1) := by decide +kernel
theorem dX7_write_2 : decode cX7_write 2 = .ok (.lconst 1, 1) := by decide +kernel
theorem dX7_write_3 : decode cX7_write 3 = .ok (.ldc2_w 78, 3) := by decide +kernel
theorem dX7_write_6 : decode cX7_write 6 = .ok (.invokestatic 80, 3) := by decide +kernel
theorem dX7_write_9 : decode cX7_write 9 = .ok (.ifCond .ne 5, 3) := by decide +kernel
theorem dX7_write_12 : decode cX7_write 12 = .ok (.iconst (-1), 1) := by decide +kernel
theorem dX7_write_13 : decode cX7_write 13 = .ok (.ireturn, 1) := by decide +kernel
theorem dX7_write_14 : decode cX7_write 14 = .ok (.aload_n 0, 1) := by decide +kernel
theorem dX7_write_15 : decode cX7_write 15 = .ok (.getfield 84, 3) := by decide +kernel
theorem dX7_write_18 : decode cX7_write 18 = .ok (.iload_n 1, 1) := by decide +kernel
theorem dX7_write_19 : decode cX7_write 19 = .ok (.iadd, 1) := by decide +kernel
theorem dX7_write_20 : decode cX7_write 20 = .ok (.sipush 400, 3) := by decide +kernel
theorem dX7_write_23 : decode cX7_write 23 = .ok (.if_icmp .le 6, 3) := by decide +kernel
theorem dX7_write_26 : decode cX7_write 26 = .ok (.bipush (-3), 2) := by decide +kernel
theorem dX7_write_28 : decode cX7_write 28 = .ok (.ireturn, 1) := by decide +kernel
theorem dX7_write_29 : decode cX7_write 29 = .ok (.iload_n 1, 1) := by decide +kernel
theorem dX7_write_30 : decode cX7_write 30 = .ok (.iconst 1, 1) := by decide +kernel
theorem dX7_write_31 : decode cX7_write 31 = .ok (.isub, 1) := by decide +kernel
theorem dX7_write_32 : decode cX7_write 32 = .ok (.istore 4, 2) := by decide +kernel
theorem dX7_write_34 : decode cX7_write 34 = .ok (.iload 4, 2) := by decide +kernel
theorem dX7_write_36 : decode cX7_write 36 = .ok (.ifCond .lt 37, 3) := by decide +kernel
theorem dX7_write_39 : decode cX7_write 39 = .ok (.aload_n 0, 1) := by decide +kernel
theorem dX7_write_40 : decode cX7_write 40 = .ok (.getfield 7, 3) := by decide +kernel
theorem dX7_write_43 : decode cX7_write 43 = .ok (.aload_n 0, 1) := by decide +kernel
theorem dX7_write_44 : decode cX7_write 44 = .ok (.getfield 84, 3) := by decide +kernel
theorem dX7_write_47 : decode cX7_write 47 = .ok (.lload_n 2, 1) := by decide +kernel
theorem dX7_write_48 : decode cX7_write 48 = .ok (.bipush 8, 2) := by decide +kernel
theorem dX7_write_50 : decode cX7_write 50 = .ok (.iload 4, 2) := by decide +kernel
theorem dX7_write_52 : decode cX7_write 52 = .ok (.imul, 1) := by decide +kernel
theorem dX7_write_53 : decode cX7_write 53 = .ok (.lshr, 1) := by decide +kernel
theorem dX7_write_54 : decode cX7_write 54 = .ok (.l2i, 1) := by decide +kernel
theorem dX7_write_55 : decode cX7_write 55 = .ok (.i2b, 1) := by decide +kernel
theorem dX7_write_56 : decode cX7_write 56 = .ok (.bastore, 1) := by decide +kernel
theorem dX7_write_57 : decode cX7_write 57 = .ok (.aload_n 0, 1) := by decide +kernel
theorem dX7_write_58 : decode cX7_write 58 = .ok (.dup, 1) := by decide +kernel
theorem dX7_write_59 : decode cX7_write 59 = .ok (.getfield 84, 3) := by decide +kernel
theorem dX7_write_62 : decode cX7_write 62 = .ok (.iconst 1, 1) := by decide +kernel
theorem dX7_write_63 : decode cX7_write 63 = .ok (.iadd, 1) := by decide +kernel
theorem dX7_write_64 : decode cX7_write 64 = .ok (.putfield 84, 3) := by decide +kernel
theorem dX7_write_67 : decode cX7_write 67 = .ok (.iinc 4 (-1), 3) := by decide +kernel
theorem dX7_write_70 : decode cX7_write 70 = .ok (.goto (-36), 3) := by decide +kernel
theorem dX7_write_73 : decode cX7_write 73 = .ok (.aload_n 0, 1) := by decide +kernel
theorem dX7_write_74 : decode cX7_write 74 = .ok (.getfield 84, 3) := by decide +kernel
theorem dX7_write_77 : decode cX7_write 77 = .ok (.ireturn, 1) := by decide +kernel
theorem dX7_wipe_0 : decode cX7_wipe 0 = .ok (.aload_n 0, 1) := by decide +kernel
theorem dX7_wipe_1 : decode cX7_wipe 1 = .ok (.getfield 84, 3) := by decide +kernel
theorem dX7_wipe_4 : decode cX7_wipe 4 = .ok (.istore_n 1, 1) := by decide +kernel
theorem dX7_wipe_5 : decode cX7_wipe 5 = .ok (.aload_n 0, 1) := by decide +kernel
theorem dX7_wipe_6 : decode cX7_wipe 6 = .ok (.iconst 0, 1) := by decide +kernel
theorem dX7_wipe_7 : decode cX7_wipe 7 = .ok (.putfield 84, 3) := by decide +kernel
theorem dX7_wipe_10 : decode cX7_wipe 10 = .ok (.iload_n 1, 1) := by decide +kernel
theorem dX7_wipe_11 : decode cX7_wipe 11 = .ok (.ireturn, 1) := by decide +kernel
theorem dX7_number_0 : decode cX7_number 0 = .ok (.iconst 0, 1) := by decide +kernel
theorem dX7_number_1 : decode cX7_number 1 = .ok (.istore_n 1, 1) := by decide +kernel
theorem dX7_number_2 : decode cX7_number 2 = .ok (.iconst 0, 1) := by decide +kernel
theorem dX7_number_3 : decode cX7_number 3 = .ok (.istore_n 2, 1) := by decide +kernel
theorem dX7_number_4 : decode cX7_number 4 = .ok (.aload_n 0, 1) := by decide +kernel
theorem dX7_number_5 : decode cX7_number 5 = .ok (.getfield 88, 3) := by decide +kernel
theorem dX7_number_8 : decode cX7_number 8 = .ok (.aload_n 0, 1) := by decide +kernel
theorem dX7_number_9 : decode cX7_number 9 = .ok (.getfield 84, 3) := by decide +kernel
theorem dX7_number_12 : decode cX7_number 12 = .ok (.if_icmp .ge 68, 3) := by decide +kernel
theorem dX7_number_15 : decode cX7_number 15 = .ok (.aload_n 0, 1) := by decide +kernel
theorem dX7_number_16 : decode cX7_number 16 = .ok (.getfield 7, 3) := by decide +kernel
theorem dX7_number_19 : decode cX7_number 19 = .ok (.aload_n 0, 1) := by decide +kernel
theorem dX7_number_20 : decode cX7_number 20 = .ok (.getfield 88, 3) := by decide +kernel
theorem dX7_number_23 : decode cX7_number 23 = .ok (.baload, 1) := by decide +kernel
theorem dX7_number_24 : decode cX7_number 24 = .ok (.i2l, 1) := by decide +kernel
theorem dX7_number_25 : decode cX7_number 25 = .ok (.ldc2_w 91, 3) := by decide +kernel
theorem dX7_number_28 : decode cX7_number 28 = .ok (.ldc2_w 93, 3) := by decide +kernel
theorem dX7_number_31 : decode cX7_number 31 = .ok (.invokestatic 80, 3) := by decide +kernel
theorem dX7_number_34 : decode cX7_number 34 = .ok (.ifCond .eq 46, 3) := by decide +kernel
theorem dX7_number_37 : decode cX7_number 37 = .ok (.iload_n 2, 1) := by decide +kernel
theorem dX7_number_38 : decode cX7_number 38 = .ok (.iconst 3, 1) := by decide +kernel
theorem dX7_number_39 : decode cX7_number 39 = .ok (.if_icmp .ge 23, 3) := by decide +kernel
theorem dX7_number_42 : decode cX7_number 42 = .ok (.bipush 10, 2) := by decide +kernel
theorem dX7_number_44 : decode cX7_number 44 = .ok (.iload_n 1, 1) := by decide +kernel
theorem dX7_number_45 : decode cX7_number 45 = .ok (.imul, 1) := by decide +kernel
theorem dX7_number_46 : decode cX7_number 46 = .ok (.aload_n 0, 1) := by decide +kernel
theorem dX7_number_47 : decode cX7_number 47 = .ok (.getfield 7, 3) := by decide +kernel
theorem dX7_number_50 : decode cX7_number 50 = .ok (.aload_n 0, 1) := by decide +kernel
theorem dX7_number_51 : decode cX7_number 51 = .ok (.getfield 88, 3) := by decide +kernel
theorem dX7_number_54 : decode cX7_number 54 = .ok (.baload, 1) := by decide +kernel
theorem dX7_number_55 : decode cX7_number 55 = .ok (.iadd, 1) := by decide +kernel
theorem dX7_number_56 : decode cX7_number 56 = .ok (.bipush 48, 2) := by decide +kernel
theorem dX7_number_58 : decode cX7_number 58 = .ok (.isub, 1) := by decide +kernel
theorem dX7_number_59 : decode cX7_number 59 = .ok (.goto 4, 3) := by decide +kernel
theorem dX7_number_62 : decode cX7_number 62 = .ok (.iload_n 1, 1) := by decide +kernel
theorem dX7_number_63 : decode cX7_number 63 = .ok (.istore_n 1, 1) := by decide +kernel
theorem dX7_number_64 : decode cX7_number 64 = .ok (.iinc 2 1, 3) := by decide +kernel
theorem dX7_number_67 : decode cX7_number 67 = .ok (.aload_n 0, 1) := by decide +kernel
theorem dX7_number_68 : decode cX7_number 68 = .ok (.dup, 1) := by decide +kernel
theorem dX7_number_69 : decode cX7_number 69 = .ok (.getfield 88, 3) := by decide +kernel
theorem dX7_number_72 : decode cX7_number 72 = .ok (.iconst 1, 1) := by decide +kernel
theorem dX7_number_73 : decode cX7_number 73 = .ok (.iadd, 1) := by decide +kernel
theorem dX7_number_74 : decode cX7_number 74 = .ok (.putfield 88, 3) := by decide +kernel
theorem dX7_number_77 : decode cX7_number 77 = .ok (.goto (-73), 3) := by decide +kernel
theorem dX7_number_80 : decode cX7_number 80 = .ok (.iload_n 2, 1) := by decide +kernel
theorem dX7_number_81 : decode cX7_number 81 = .ok (.i2l, 1) := by decide +kernel
theorem dX7_number_82 : decode cX7_number 82 = .ok (.lconst 1, 1) := by decide +kernel
theorem dX7_number_83 : decode cX7_number 83 = .ok (.ldc2_w 95, 3) := by decide +kernel
theorem dX7_number_86 : decode cX7_number 86 = .ok (.invokestatic 80, 3) := by decide +kernel
theorem dX7_number_89 : decode cX7_number 89 = .ok (.ifCond .eq 7, 3) := by decide +kernel
theorem dX7_number_92 : decode cX7_number 92 = .ok (.iload_n 1, 1) := by decide +kernel
theorem dX7_number_93 : decode cX7_number 93 = .ok (.goto 4, 3) := by decide +kernel
theorem dX7_number_96 : decode cX7_number 96 = .ok (.iconst (-1), 1) := by decide +kernel
theorem dX7_number_97 : decode cX7_number 97 = .ok (.ireturn, 1) := by decide +kernel
theorem dX7_parts_0 : decode cX7_parts 0 = .ok (.iload_n 0, 1) := by decide +kernel
theorem dX7_parts_1 : decode cX7_parts 1 = .ok (.bipush 114, 2) := by decide +kernel
theorem dX7_parts_3 : decode cX7_parts 3 = .ok (.if_icmp .ne 8, 3) := by decide +kernel
theorem dX7_parts_6 : decode cX7_parts 6 = .ok (.bipush 7, 2) := by decide +kernel
theorem dX7_parts_8 : decode cX7_parts 8 = .ok (.goto 42, 3) := by decide +kernel
theorem dX7_parts_11 : decode cX7_parts 11 = .ok (.iload_n 0, 1) := by decide +kernel
theorem dX7_parts_12 : decode cX7_parts 12 = .ok (.bipush 99, 2) := by decide +kernel
theorem dX7_parts_14 : decode cX7_parts 14 = .ok (.if_icmp .ne 7, 3) := by decide +kernel
theorem dX7_parts_17 : decode cX7_parts 17 = .ok (.iconst 2, 1) := by decide +kernel
theorem dX7_parts_18 : decode cX7_parts 18 = .ok (.goto 32, 3) := by decide +kernel
theorem dX7_parts_21 : decode cX7_parts 21 = .ok (.iload_n 0, 1) := by decide +kernel
theorem dX7_parts_22 : decode cX7_parts 22 = .ok (.bipush 115, 2) := by decide +kernel
theorem dX7_parts_24 : decode cX7_parts 24 = .ok (.if_icmp .eq 21, 3) := by decide +kernel
theorem dX7_parts_27 : decode cX7_parts 27 = .ok (.iload_n 0, 1) := by decide +kernel
theorem dX7_parts_28 : decode cX7_parts 28 = .ok (.bipush 108, 2) := by decide +kernel
theorem dX7_parts_30 : decode cX7_parts 30 = .ok (.if_icmp .eq 15, 3) := by decide +kernel
theorem dX7_parts_33 : decode cX7_parts 33 = .ok (.iload_n 0, 1) := by decide +kernel
theorem dX7_parts_34 : decode cX7_parts 34 = .ok (.bipush 119, 2) := by decide +kernel
theorem dX7_parts_36 : decode cX7_parts 36 = .ok (.if_icmp .eq 9, 3) := by decide +kernel
theorem dX7_parts_39 : decode cX7_parts 39 = .ok (.iload_n 0, 1) := by decide +kernel
theorem dX7_parts_40 : decode cX7_parts 40 = .ok (.bipush 118, 2) := by decide +kernel
theorem dX7_parts_42 : decode cX7_parts 42 = .ok (.if_icmp .ne 7, 3) := by decide +kernel
theorem dX7_parts_45 : decode cX7_parts 45 = .ok (.iconst 1, 1) := by decide +kernel
theorem dX7_parts_46 : decode cX7_parts 46 = .ok (.goto 4, 3) := by decide +kernel
theorem dX7_parts_49 : decode cX7_parts 49 = .ok (.iconst 0, 1) := by decide +kernel
theorem dX7_parts_50 : decode cX7_parts 50 = .ok (.ireturn, 1) := by decide +kernel
theorem dX7_isItem_0 : decode cX7_isItem 0 = .ok (.aload_n 0, 1) := by decide +kernel
theorem dX7_isItem_1 : decode cX7_isItem 1 = .ok (.getfield 7, 3) := by decide +kernel
theorem dX7_isItem_4 : decode cX7_isItem 4 = .ok (.aload_n 0, 1) := by decide +kernel
theorem dX7_isItem_5 : decode cX7_isItem 5 = .ok (.getfield 88, 3) := by decide +kernel
theorem dX7_isItem_8 : decode cX7_isItem 8 = .ok (.baload, 1) := by decide +kernel
theorem dX7_isItem_9 : decode cX7_isItem 9 = .ok (.istore_n 1, 1) := by decide +kernel
theorem dX7_isItem_10 : decode cX7_isItem 10 = .ok (.aload_n 0, 1) := by decide +kernel
theorem dX7_isItem_11 : decode cX7_isItem 11 = .ok (.dup, 1) := by decide +kernel
theorem dX7_isItem_12 : decode cX7_isItem 12 = .ok (.getfield 88, 3) := by decide +kernel
theorem dX7_isItem_15 : decode cX7_isItem 15 = .ok (.iconst 1, 1) := by decide +kernel
theorem dX7_isItem_16 : decode cX7_isItem 16 = .ok (.iadd, 1) := by decide +kernel
theorem dX7_isItem_17 : decode cX7_isItem 17 = .ok (.putfield 88, 3) := by decide +kernel
theorem dX7_isItem_20 : decode cX7_isItem 20 = .ok (.iload_n 1, 1) := by decide +kernel
theorem dX7_isItem_21 : decode cX7_isItem 21 = .ok (.invokestatic 97, 3) := by decide +kernel
theorem dX7_isItem_24 : decode cX7_isItem 24 = .ok (.istore_n 2, 1) := by decide +kernel
theorem dX7_isItem_25 : decode cX7_isItem 25 = .ok (.iload_n 2, 1) := by decide +kernel
theorem dX7_isItem_26 : decode cX7_isItem 26 = .ok (.ifCond .le 7, 3) := by decide +kernel
theorem dX7_isItem_29 : decode cX7_isItem 29 = .ok (.iconst 1, 1) := by decide +kernel
theorem dX7_isItem_30 : decode cX7_isItem 30 = .ok (.goto 4, 3) := by decide +kernel
theorem dX7_isItem_33 : decode cX7_isItem 33 = .ok (.iconst 0, 1) := by decide +kernel
theorem dX7_isItem_34 : decode cX7_isItem 34 = .ok (.istore_n 3, 1) := by decide +kernel
theorem dX7_isItem_35 : decode cX7_isItem 35 = .ok (.iconst 0, 1) := by decide +kernel
theorem dX7_isItem_36 : decode cX7_isItem 36 = .ok (.istore 4, 2) := by decide +kernel
theorem dX7_isItem_38 : decode cX7_isItem 38 = .ok (.iload 4, 2) := by decide +kernel
theorem dX7_isItem_40 : decode cX7_isItem 40 = .ok (.iload_n 2, 1) := by decide +kernel
theorem dX7_isItem_41 : decode cX7_isItem 41 = .ok (.if_icmp .ge 103, 3) := by decide +kernel
theorem dX7_isItem_44 : decode cX7_isItem 44 = .ok (.iload_n 3, 1) := by decide +kernel
theorem dX7_isItem_45 : decode cX7_isItem 45 = .ok (.ifCond .eq 99, 3) := by decide +kernel
theorem dX7_isItem_48 : decode cX7_isItem 48 = .ok (.iload 4, 2) := by decide +kernel
theorem dX7_isItem_50 : decode cX7_isItem 50 = .ok (.ifCond .eq 28, 3) := by decide +kernel
theorem dX7_isItem_53 : decode cX7_isItem 53 = .ok (.aload_n 0, 1) := by decide +kernel
theorem dX7_isItem_54 : decode cX7_isItem 54 = .ok (.getfield 88, 3) := by decide +kernel
theorem dX7_isItem_57 : decode cX7_isItem 57 = .ok (.aload_n 0, 1) := by decide +kernel
theorem dX7_isItem_58 : decode cX7_isItem 58 = .ok (.getfield 84, 3) := by decide +kernel
theorem dX7_isItem_61 : decode cX7_isItem 61 = .ok (.if_icmp .ge 21, 3) := by decide +kernel
theorem dX7_isItem_64 : decode cX7_isItem 64 = .ok (.aload_n 0, 1) := by decide +kernel
theorem dX7_isItem_65 : decode cX7_isItem 65 = .ok (.getfield 7, 3) := by decide +kernel
theorem dX7_isItem_68 : decode cX7_isItem 68 = .ok (.aload_n 0, 1) := by decide +kernel
theorem dX7_isItem_69 : decode cX7_isItem 69 = .ok (.getfield 88, 3) := by decide +kernel
theorem dX7_isItem_72 : decode cX7_isItem 72 = .ok (.baload, 1) := by decide +kernel
theorem dX7_isItem_73 : decode cX7_isItem 73 = .ok (.bipush 44, 2) := by decide +kernel
theorem dX7_isItem_75 : decode cX7_isItem 75 = .ok (.if_icmp .ne 7, 3) := by decide +kernel
theorem dX7_isItem_78 : decode cX7_isItem 78 = .ok (.iconst 1, 1) := by decide +kernel
theorem dX7_isItem_79 : decode cX7_isItem 79 = .ok (.goto 4, 3) := by decide +kernel
theorem dX7_isItem_82 : decode cX7_isItem 82 = .ok (.iconst 0, 1) := by decide +kernel
theorem dX7_isItem_83 : decode cX7_isItem 83 = .ok (.istore_n 3, 1) := by decide +kernel
theorem dX7_isItem_84 : decode cX7_isItem 84 = .ok (.aload_n 0, 1) := by decide +kernel
theorem dX7_isItem_85 : decode cX7_isItem 85 = .ok (.dup, 1) := by decide +kernel
theorem dX7_isItem_86 : decode cX7_isItem 86 = .ok (.getfield 88, 3) := by decide +kernel
theorem dX7_isItem_89 : decode cX7_isItem 89 = .ok (.iload 4, 2) := by decide +kernel
theorem dX7_isItem_91 : decode cX7_isItem 91 = .ok (.ifCond .ne 7, 3) := by decide +kernel
theorem dX7_isItem_94 : decode cX7_isItem 94 = .ok (.iconst 0, 1) := by decide +kernel
theorem dX7_isItem_95 : decode cX7_isItem 95 = .ok (.goto 4, 3) := by decide +kernel
theorem dX7_isItem_98 : decode cX7_isItem 98 = .ok (.iconst 1, 1) := by decide +kernel
theorem dX7_isItem_99 : decode cX7_isItem 99 = .ok (.iadd, 1) := by decide +kernel
theorem dX7_isItem_100 : decode cX7_isItem 100 = .ok (.putfield 88, 3) := by decide +kernel
theorem dX7_isItem_103 : decode cX7_isItem 103 = .ok (.aload_n 0, 1) := by decide +kernel
theorem dX7_isItem_104 : decode cX7_isItem 104 = .ok (.getfield 69, 3) := by decide +kernel
theorem dX7_isItem_107 : decode cX7_isItem 107 = .ok (.iload 4, 2) := by decide +kernel
theorem dX7_isItem_109 : decode cX7_isItem 109 = .ok (.iload_n 3, 1) := by decide +kernel
theorem dX7_isItem_110 : decode cX7_isItem 110 = .ok (.ifCond .eq 10, 3) := by decide +kernel
theorem dX7_isItem_113 : decode cX7_isItem 113 = .ok (.aload_n 0, 1) := by decide +kernel
theorem dX7_isItem_114 : decode cX7_isItem 114 = .ok (.invokevirtual 101, 3) := by decide +kernel
theorem dX7_isItem_117 : decode cX7_isItem 117 = .ok (.goto 4, 3) := by decide +kernel
theorem dX7_isItem_120 : decode cX7_isItem 120 = .ok (.iconst (-1), 1) := by decide +kernel
theorem dX7_isItem_121 : decode cX7_isItem 121 = .ok (.iastore, 1) := by decide +kernel
theorem dX7_isItem_122 : decode cX7_isItem 122 = .ok (.aload_n 0, 1) := by decide +kernel
theorem dX7_isItem_123 : decode cX7_isItem 123 = .ok (.getfield 69, 3) := by decide +kernel
theorem dX7_isItem_126 : decode cX7_isItem 126 = .ok (.iload 4, 2) := by decide +kernel
theorem dX7_isItem_128 : decode cX7_isItem 128 = .ok (.iaload, 1) := by decide +kernel
theorem dX7_isItem_129 : decode cX7_isItem 129 = .ok (.ifCond .lt 7, 3) := by decide +kernel
theorem dX7_isItem_132 : decode cX7_isItem 132 = .ok (.iconst 1, 1) := by decide +kernel
theorem dX7_isItem_133 : decode cX7_isItem 133 = .ok (.goto 4, 3) := by decide +kernel
theorem dX7_isItem_136 : decode cX7_isItem 136 = .ok (.iconst 0, 1) := by decide +kernel
theorem dX7_isItem_137 : decode cX7_isItem 137 = .ok (.istore_n 3, 1) := by decide +kernel
theorem dX7_isItem_138 : decode cX7_isItem 138 = .ok (.iinc 4 1, 3) := by decide +kernel
theorem dX7_isItem_141 : decode cX7_isItem 141 = .ok (.goto (-103), 3) := by decide +kernel
theorem dX7_isItem_144 : decode cX7_isItem 144 = .ok (.iload_n 3, 1) := by decide +kernel
theorem dX7_isItem_145 : decode cX7_isItem 145 = .ok (.ifCond .eq 32, 3) := by decide +kernel
theorem dX7_isItem_148 : decode cX7_isItem 148 = .ok (.aload_n 0, 1) := by decide +kernel
theorem dX7_isItem_149 : decode cX7_isItem 149 = .ok (.getfield 88, 3) := by decide +kernel
theorem dX7_isItem_152 : decode cX7_isItem 152 = .ok (.aload_n 0, 1) := by decide +kernel
theorem dX7_isItem_153 : decode cX7_isItem 153 = .ok (.getfield 84, 3) := by decide +kernel
theorem dX7_isItem_156 : decode cX7_isItem 156 = .ok (.if_icmp .ge 21, 3) := by decide +kernel
theorem dX7_isItem_159 : decode cX7_isItem 159 = .ok (.aload_n 0, 1) := by decide +kernel
theorem dX7_isItem_160 : decode cX7_isItem 160 = .ok (.getfield 7, 3) := by decide +kernel
theorem dX7_isItem_163 : decode cX7_isItem 163 = .ok (.aload_n 0, 1) := by decide +kernel
theorem dX7_isItem_164 : decode cX7_isItem 164 = .ok (.getfield 88, 3) := by decide +kernel
theorem dX7_isItem_167 : decode cX7_isItem 167 = .ok (.baload, 1) := by decide +kernel
theorem dX7_isItem_168 : decode cX7_isItem 168 = .ok (.bipush 59, 2) := by decide +kernel
theorem dX7_isItem_170 : decode cX7_isItem 170 = .ok (.if_icmp .ne 7, 3) := by decide +kernel
theorem dX7_isItem_173 : decode cX7_isItem 173 = .ok (.iconst 1, 1) := by decide +kernel
theorem dX7_isItem_174 : decode cX7_isItem 174 = .ok (.goto 4, 3) := by decide +kernel
theorem dX7_isItem_177 : decode cX7_isItem 177 = .ok (.iconst 0, 1) := by decide +kernel
theorem dX7_isItem_178 : decode cX7_isItem 178 = .ok (.istore_n 3, 1) := by decide +kernel
theorem dX7_isItem_179 : decode cX7_isItem 179 = .ok (.aload_n 0, 1) := by decide +kernel
theorem dX7_isItem_180 : decode cX7_isItem 180 = .ok (.dup, 1) := by decide +kernel
theorem dX7_isItem_181 : decode cX7_isItem 181 = .ok (.getfield 88, 3) := by decide +kernel
theorem dX7_isItem_184 : decode cX7_isItem 184 = .ok (.iconst 1, 1) := by decide +kernel
theorem dX7_isItem_185 : decode cX7_isItem 185 = .ok (.iadd, 1) := by decide +kernel
theorem dX7_isItem_186 : decode cX7_isItem 186 = .ok (.putfield 88, 3) := by decide +kernel
theorem dX7_isItem_189 : decode cX7_isItem 189 = .ok (.iload_n 3, 1) := by decide +kernel
theorem dX7_isItem_190 : decode cX7_isItem 190 = .ok (.ifCond .eq 15, 3) := by decide +kernel
theorem dX7_isItem_193 : decode cX7_isItem 193 = .ok (.aload_n 0, 1) := by decide +kernel
theorem dX7_isItem_194 : decode cX7_isItem 194 = .ok (.iload_n 1, 1) := by decide +kernel
theorem dX7_isItem_195 : decode cX7_isItem 195 = .ok (.invokevirtual 105, 3) := by decide +kernel
theorem dX7_isItem_198 : decode cX7_isItem 198 = .ok (.ifCond .eq 7, 3) := by decide +kernel
theorem dX7_isItem_201 : decode cX7_isItem 201 = .ok (.iconst 1, 1) := by decide +kernel
theorem dX7_isItem_202 : decode cX7_isItem 202 = .ok (.goto 4, 3) := by decide +kernel
theorem dX7_isItem_205 : decode cX7_isItem 205 = .ok (.iconst 0, 1) := by decide +kernel
theorem dX7_isItem_206 : decode cX7_isItem 206 = .ok (.ireturn, 1) := by decide +kernel
theorem dX7_isIn_0 : decode cX7_isIn 0 = .ok (.aload_n 0, 1) := by decide +kernel
theorem dX7_isIn_1 : decode cX7_isIn 1 = .ok (.getfield 69, 3) := by decide +kernel
theorem dX7_isIn_4 : decode cX7_isIn 4 = .ok (.iload_n 1, 1) := by decide +kernel
theorem dX7_isIn_5 : decode cX7_isIn 5 = .ok (.iaload, 1) := by decide +kernel
theorem dX7_isIn_6 : decode cX7_isIn 6 = .ok (.i2l, 1) := by decide +kernel
theorem dX7_isIn_7 : decode cX7_isIn 7 = .ok (.iload_n 2, 1) := by decide +kernel
theorem dX7_isIn_8 : decode cX7_isIn 8 = .ok (.i2l, 1) := by decide +kernel
theorem dX7_isIn_9 : decode cX7_isIn 9 = .ok (.iload_n 3, 1) := by decide +kernel
theorem dX7_isIn_10 : decode cX7_isIn 10 = .ok (.i2l, 1) := by decide +kernel
theorem dX7_isIn_11 : decode cX7_isIn 11 = .ok (.invokestatic 80, 3) := by decide +kernel
theorem dX7_isIn_14 : decode cX7_isIn 14 = .ok (.ireturn, 1) := by decide +kernel
theorem dX7_isGood_0 : decode cX7_isGood 0 = .ok (.iload_n 1, 1) := by decide +kernel
theorem dX7_isGood_1 : decode cX7_isGood 1 = .ok (.bipush 115, 2) := by decide +kernel
theorem dX7_isGood_3 : decode cX7_isGood 3 = .ok (.if_icmp .ne 59, 3) := by decide +kernel
theorem dX7_isGood_6 : decode cX7_isGood 6 = .ok (.aload_n 0, 1) := by decide +kernel
theorem dX7_isGood_7 : decode cX7_isGood 7 = .ok (.iconst 0, 1) := by decide +kernel
theorem dX7_isGood_8 : decode cX7_isGood 8 = .ok (.iconst 0, 1) := by decide +kernel
theorem dX7_isGood_9 : decode cX7_isGood 9 = .ok (.iconst 3, 1) := by decide +kernel
theorem dX7_isGood_10 : decode cX7_isGood 10 = .ok (.invokevirtual 109, 3) := by decide +kernel
theorem dX7_isGood_13 : decode cX7_isGood 13 = .ok (.ifCond .eq 14, 3) := by decide +kernel
theorem dX7_isGood_16 : decode cX7_isGood 16 = .ok (.aload_n 0, 1) := by decide +kernel
theorem dX7_isGood_17 : decode cX7_isGood 17 = .ok (.getfield 13, 3) := by decide +kernel
theorem dX7_isGood_20 : decode cX7_isGood 20 = .ok (.iconst 1, 1) := by decide +kernel
theorem dX7_isGood_21 : decode cX7_isGood 21 = .ok (.iaload, 1) := by decide +kernel
theorem dX7_isGood_22 : decode cX7_isGood 22 = .ok (.bipush 10, 2) := by decide +kernel
theorem dX7_isGood_24 : decode cX7_isGood 24 = .ok (.if_icmp .ne 5, 3) := by decide +kernel
theorem dX7_isGood_27 : decode cX7_isGood 27 = .ok (.iconst 0, 1) := by decide +kernel
theorem dX7_isGood_28 : decode cX7_isGood 28 = .ok (.ireturn, 1) := by decide +kernel
theorem dX7_isGood_29 : decode cX7_isGood 29 = .ok (.aload_n 0, 1) := by decide +kernel
theorem dX7_isGood_30 : decode cX7_isGood 30 = .ok (.getfield 20, 3) := by decide +kernel
theorem dX7_isGood_33 : decode cX7_isGood 33 = .ok (.bipush 10, 2) := by decide +kernel
theorem dX7_isGood_35 : decode cX7_isGood 35 = .ok (.aload_n 0, 1) := by decide +kernel
theorem dX7_isGood_36 : decode cX7_isGood 36 = .ok (.getfield 13, 3) := by decide +kernel
theorem dX7_isGood_39 : decode cX7_isGood 39 = .ok (.iconst 1, 1) := by decide +kernel
theorem dX7_isGood_40 : decode cX7_isGood 40 = .ok (.iaload, 1) := by decide +kernel
theorem dX7_isGood_41 : decode cX7_isGood 41 = .ok (.iadd, 1) := by decide +kernel
theorem dX7_isGood_42 : decode cX7_isGood 42 = .ok (.aload_n 0, 1) := by decide +kernel
theorem dX7_isGood_43 : decode cX7_isGood 43 = .ok (.getfield 69, 3) := by decide +kernel
theorem dX7_isGood_46 : decode cX7_isGood 46 = .ok (.iconst 0, 1) := by decide +kernel
theorem dX7_isGood_47 : decode cX7_isGood 47 = .ok (.iaload, 1) := by decide +kernel
theorem dX7_isGood_48 : decode cX7_isGood 48 = .ok (.iastore, 1) := by decide +kernel
theorem dX7_isGood_49 : decode cX7_isGood 49 = .ok (.aload_n 0, 1) := by decide +kernel
theorem dX7_isGood_50 : decode cX7_isGood 50 = .ok (.getfield 13, 3) := by decide +kernel
theorem dX7_isGood_53 : decode cX7_isGood 53 = .ok (.iconst 1, 1) := by decide +kernel
theorem dX7_isGood_54 : decode cX7_isGood 54 = .ok (.dup2, 1) := by decide +kernel
theorem dX7_isGood_55 : decode cX7_isGood 55 = .ok (.iaload, 1) := by decide +kernel
theorem dX7_isGood_56 : decode cX7_isGood 56 = .ok (.iconst 1, 1) := by decide +kernel
theorem dX7_isGood_57 : decode cX7_isGood 57 = .ok (.iadd, 1) := by decide +kernel
theorem dX7_isGood_58 : decode cX7_isGood 58 = .ok (.iastore, 1) := by decide +kernel
theorem dX7_isGood_59 : decode cX7_isGood 59 = .ok (.goto 291, 3) := by decide +kernel
theorem dX7_isGood_62 : decode cX7_isGood 62 = .ok (.iload_n 1, 1) := by decide +kernel
theorem dX7_isGood_63 : decode cX7_isGood 63 = .ok (.bipush 114, 2) := by decide +kernel
theorem dX7_isGood_65 : decode cX7_isGood 65 = .ok (.if_icmp .ne 148, 3) := by decide +kernel
theorem dX7_isGood_68 : decode cX7_isGood 68 = .ok (.aload_n 0, 1) := by decide +kernel
theorem dX7_isGood_69 : decode cX7_isGood 69 = .ok (.iconst 0, 1) := by decide +kernel
theorem dX7_isGood_70 : decode cX7_isGood 70 = .ok (.iconst 0, 1) := by decide +kernel
theorem dX7_isGood_71 : decode cX7_isGood 71 = .ok (.sipush 199, 3) := by decide +kernel
theorem dX7_isGood_74 : decode cX7_isGood 74 = .ok (.invokevirtual 109, 3) := by decide +kernel
theorem dX7_isGood_77 : decode cX7_isGood 77 = .ok (.ifCond .eq 82, 3) := by decide +kernel
theorem dX7_isGood_80 : decode cX7_isGood 80 = .ok (.aload_n 0, 1) := by decide +kernel
theorem dX7_isGood_81 : decode cX7_isGood 81 = .ok (.iconst 1, 1) := by decide +kernel
theorem dX7_isGood_82 : decode cX7_isGood 82 = .ok (.iconst 1, 1) := by decide +kernel
theorem dX7_isGood_83 : decode cX7_isGood 83 = .ok (.sipush 199, 3) := by decide +kernel
theorem dX7_isGood_86 : decode cX7_isGood 86 = .ok (.invokevirtual 109, 3) := by decide +kernel
theorem dX7_isGood_89 : decode cX7_isGood 89 = .ok (.ifCond .eq 70, 3) := by decide +kernel
theorem dX7_isGood_92 : decode cX7_isGood 92 = .ok (.aload_n 0, 1) := by decide +kernel
theorem dX7_isGood_93 : decode cX7_isGood 93 = .ok (.iconst 2, 1) := by decide +kernel
theorem dX7_isGood_94 : decode cX7_isGood 94 = .ok (.iconst 1, 1) := by decide +kernel
theorem dX7_isGood_95 : decode cX7_isGood 95 = .ok (.sipush 199, 3) := by decide +kernel
theorem dX7_isGood_98 : decode cX7_isGood 98 = .ok (.invokevirtual 109, 3) := by decide +kernel
theorem dX7_isGood_101 : decode cX7_isGood 101 = .ok (.ifCond .eq 58, 3) := by decide +kernel
theorem dX7_isGood_104 : decode cX7_isGood 104 = .ok (.aload_n 0, 1) := by decide +kernel
theorem dX7_isGood_105 : decode cX7_isGood 105 = .ok (.iconst 3, 1) := by decide +kernel
theorem dX7_isGood_106 : decode cX7_isGood 106 = .ok (.iconst 1, 1) := by decide +kernel
theorem dX7_isGood_107 : decode cX7_isGood 107 = .ok (.bipush 99, 2) := by decide +kernel
theorem dX7_isGood_109 : decode cX7_isGood 109 = .ok (.invokevirtual 109, 3) := by decide +kernel
theorem dX7_isGood_112 : decode cX7_isGood 112 = .ok (.ifCond .eq 47, 3) := by decide +kernel
theorem dX7_isGood_115 : decode cX7_isGood 115 = .ok (.aload_n 0, 1) := by decide +kernel
theorem dX7_isGood_116 : decode cX7_isGood 116 = .ok (.iconst 4, 1) := by decide +kernel
theorem dX7_isGood_117 : decode cX7_isGood 117 = .ok (.iconst 0, 1) := by decide +kernel
theorem dX7_isGood_118 : decode cX7_isGood 118 = .ok (.iconst 3, 1) := by decide +kernel
theorem dX7_isGood_119 : decode cX7_isGood 119 = .ok (.invokevirtual 109, 3) := by decide +kernel
theorem dX7_isGood_122 : decode cX7_isGood 122 = .ok (.ifCond .eq 37, 3) := by decide +kernel
theorem dX7_isGood_125 : decode cX7_isGood 125 = .ok (.aload_n 0, 1) := by decide +kernel
theorem dX7_isGood_126 : decode cX7_isGood 126 = .ok (.iconst 5, 1) := by decide +kernel
theorem dX7_isGood_127 : decode cX7_isGood 127 = .ok (.iconst 0, 1) := by decide +kernel
theorem dX7_isGood_128 : decode cX7_isGood 128 = .ok (.bipush 9, 2) := by decide +kernel
theorem dX7_isGood_130 : decode cX7_isGood 130 = .ok (.invokevirtual 109, 3) := by decide +kernel
theorem dX7_isGood_133 : decode cX7_isGood 133 = .ok (.ifCond .eq 26, 3) := by decide +kernel
theorem dX7_isGood_136 : decode cX7_isGood 136 = .ok (.aload_n 0, 1) := by decide +kernel
theorem dX7_isGood_137 : decode cX7_isGood 137 = .ok (.bipush 6, 2) := by decide +kernel
theorem dX7_isGood_139 : decode cX7_isGood 139 = .ok (.iconst 0, 1) := by decide +kernel
theorem dX7_isGood_140 : decode cX7_isGood 140 = .ok (.bipush 9, 2) := by decide +kernel
theorem dX7_isGood_142 : decode cX7_isGood 142 = .ok (.invokevirtual 109, 3) := by decide +kernel
theorem dX7_isGood_145 : decode cX7_isGood 145 = .ok (.ifCond .eq 14, 3) := by decide +kernel
theorem dX7_isGood_148 : decode cX7_isGood 148 = .ok (.aload_n 0, 1) := by decide +kernel
theorem dX7_isGood_149 : decode cX7_isGood 149 = .ok (.getfield 17, 3) := by decide +kernel
theorem dX7_isGood_152 : decode cX7_isGood 152 = .ok (.iconst 1, 1) := by decide +kernel
theorem dX7_isGood_153 : decode cX7_isGood 153 = .ok (.iaload, 1) := by decide +kernel
theorem dX7_isGood_154 : decode cX7_isGood 154 = .ok (.bipush 8, 2) := by decide +kernel
theorem dX7_isGood_156 : decode cX7_isGood 156 = .ok (.if_icmp .ne 5, 3) := by decide +kernel
theorem dX7_isGood_159 : decode cX7_isGood 159 = .ok (.iconst 0, 1) := by decide +kernel
theorem dX7_isGood_160 : decode cX7_isGood 160 = .ok (.ireturn, 1) := by decide +kernel
theorem dX7_isGood_161 : decode cX7_isGood 161 = .ok (.iconst 0, 1) := by decide +kernel
theorem dX7_isGood_162 : decode cX7_isGood 162 = .ok (.istore_n 2, 1) := by decide +kernel
theorem dX7_isGood_163 : decode cX7_isGood 163 = .ok (.iload_n 2, 1) := by decide +kernel
theorem dX7_isGood_164 : decode cX7_isGood 164 = .ok (.bipush 7, 2) := by decide +kernel
theorem dX7_isGood_166 : decode cX7_isGood 166 = .ok (.if_icmp .ge 34, 3) := by decide +kernel
theorem dX7_isGood_169 : decode cX7_isGood 169 = .ok (.aload_n 0, 1) := by decide +kernel
theorem dX7_isGood_170 : decode cX7_isGood 170 = .ok (.getfield 23, 3) := by decide +kernel
theorem dX7_isGood_173 : decode cX7_isGood 173 = .ok (.bipush 56, 2) := by decide +kernel
theorem dX7_isGood_175 : decode cX7_isGood 175 = .ok (.bipush 7, 2) := by decide +kernel
theorem dX7_isGood_177 : decode cX7_isGood 177 = .ok (.aload_n 0, 1) := by decide +kernel
theorem dX7_isGood_178 : decode cX7_isGood 178 = .ok (.getfield 17, 3) := by decide +kernel
theorem dX7_isGood_181 : decode cX7_isGood 181 = .ok (.iconst 1, 1) := by decide +kernel
theorem dX7_isGood_182 : decode cX7_isGood 182 = .ok (.iaload, 1) := by decide +kernel
theorem dX7_isGood_183 : decode cX7_isGood 183 = .ok (.imul, 1) := by decide +kernel
theorem dX7_isGood_184 : decode cX7_isGood 184 = .ok (.iadd, 1) := by decide +kernel
theorem dX7_isGood_185 : decode cX7_isGood 185 = .ok (.iload_n 2, 1) := by decide +kernel
theorem dX7_isGood_186 : decode cX7_isGood 186 = .ok (.iadd, 1) := by decide +kernel
theorem dX7_isGood_187 : decode cX7_isGood 187 = .ok (.aload_n 0, 1) := by decide +kernel
theorem dX7_isGood_188 : decode cX7_isGood 188 = .ok (.getfield 69, 3) := by decide +kernel
theorem dX7_isGood_191 : decode cX7_isGood 191 = .ok (.iload_n 2, 1) := by decide +kernel
theorem dX7_isGood_192 : decode cX7_isGood 192 = .ok (.iaload, 1) := by decide +kernel
theorem dX7_isGood_193 : decode cX7_isGood 193 = .ok (.iastore, 1) := by decide +kernel
theorem dX7_isGood_194 : decode cX7_isGood 194 = .ok (.iinc 2 1, 3) := by decide +kernel
theorem dX7_isGood_197 : decode cX7_isGood 197 = .ok (.goto (-34), 3) := by decide +kernel
theorem dX7_isGood_200 : decode cX7_isGood 200 = .ok (.aload_n 0, 1) := by decide +kernel
theorem dX7_isGood_201 : decode cX7_isGood 201 = .ok (.getfield 17, 3) := by decide +kernel
theorem dX7_isGood_204 : decode cX7_isGood 204 = .ok (.iconst 1, 1) := by decide +kernel
theorem dX7_isGood_205 : decode cX7_isGood 205 = .ok (.dup2, 1) := by decide +kernel
theorem dX7_isGood_206 : decode cX7_isGood 206 = .ok (.iaload, 1) := by decide +kernel
theorem dX7_isGood_207 : decode cX7_isGood 207 = .ok (.iconst 1, 1) := by decide +kernel
theorem dX7_isGood_208 : decode cX7_isGood 208 = .ok (.iadd, 1) := by decide +kernel
theorem dX7_isGood_209 : decode cX7_isGood 209 = .ok (.iastore, 1) := by decide +kernel
theorem dX7_isGood_210 : decode cX7_isGood 210 = .ok (.goto 140, 3) := by decide +kernel
theorem dX7_isGood_213 : decode cX7_isGood 213 = .ok (.iload_n 1, 1) := by decide +kernel
theorem dX7_isGood_214 : decode cX7_isGood 214 = .ok (.bipush 99, 2) := by decide +kernel
theorem dX7_isGood_216 : decode cX7_isGood 216 = .ok (.if_icmp .ne 56, 3) := by decide +kernel
theorem dX7_isGood_219 : decode cX7_isGood 219 = .ok (.aload_n 0, 1) := by decide +kernel
theorem dX7_isGood_220 : decode cX7_isGood 220 = .ok (.getfield 26, 3) := by decide +kernel
theorem dX7_isGood_223 : decode cX7_isGood 223 = .ok (.iconst 5, 1) := by decide +kernel
theorem dX7_isGood_224 : decode cX7_isGood 224 = .ok (.aload_n 0, 1) := by decide +kernel
theorem dX7_isGood_225 : decode cX7_isGood 225 = .ok (.getfield 69, 3) := by decide +kernel
theorem dX7_isGood_228 : decode cX7_isGood 228 = .ok (.iconst 0, 1) := by decide +kernel
theorem dX7_isGood_229 : decode cX7_isGood 229 = .ok (.iaload, 1) := by decide +kernel
theorem dX7_isGood_230 : decode cX7_isGood 230 = .ok (.iastore, 1) := by decide +kernel
theorem dX7_isGood_231 : decode cX7_isGood 231 = .ok (.aload_n 0, 1) := by decide +kernel
theorem dX7_isGood_232 : decode cX7_isGood 232 = .ok (.getfield 26, 3) := by decide +kernel
theorem dX7_isGood_235 : decode cX7_isGood 235 = .ok (.bipush 6, 2) := by decide +kernel
theorem dX7_isGood_237 : decode cX7_isGood 237 = .ok (.aload_n 0, 1) := by decide +kernel
theorem dX7_isGood_238 : decode cX7_isGood 238 = .ok (.getfield 69, 3) := by decide +kernel
theorem dX7_isGood_241 : decode cX7_isGood 241 = .ok (.iconst 1, 1) := by decide +kernel
theorem dX7_isGood_242 : decode cX7_isGood 242 = .ok (.iaload, 1) := by decide +kernel
theorem dX7_isGood_243 : decode cX7_isGood 243 = .ok (.iastore, 1) := by decide +kernel
theorem dX7_isGood_244 : decode cX7_isGood 244 = .ok (.aload_n 0, 1) := by decide +kernel
theorem dX7_isGood_245 : decode cX7_isGood 245 = .ok (.iconst 0, 1) := by decide +kernel
theorem dX7_isGood_246 : decode cX7_isGood 246 = .ok (.iconst 1, 1) := by decide +kernel
theorem dX7_isGood_247 : decode cX7_isGood 247 = .ok (.bipush 99, 2) := by decide +kernel
theorem dX7_isGood_249 : decode cX7_isGood 249 = .ok (.invokevirtual 109, 3) := by decide +kernel
theorem dX7_isGood_252 : decode cX7_isGood 252 = .ok (.ifCond .eq 18, 3) := by decide +kernel
theorem dX7_isGood_255 : decode cX7_isGood 255 = .ok (.aload_n 0, 1) := by decide +kernel
theorem dX7_isGood_256 : decode cX7_isGood 256 = .ok (.iconst 1, 1) := by decide +kernel
theorem dX7_isGood_257 : decode cX7_isGood 257 = .ok (.iconst 1, 1) := by decide +kernel
theorem dX7_isGood_258 : decode cX7_isGood 258 = .ok (.bipush 99, 2) := by decide +kernel
theorem dX7_isGood_260 : decode cX7_isGood 260 = .ok (.invokevirtual 109, 3) := by decide +kernel
theorem dX7_isGood_263 : decode cX7_isGood 263 = .ok (.ifCond .eq 7, 3) := by decide +kernel
theorem dX7_isGood_266 : decode cX7_isGood 266 = .ok (.iconst 1, 1) := by decide +kernel
theorem dX7_isGood_267 : decode cX7_isGood 267 = .ok (.goto 4, 3) := by decide +kernel
theorem dX7_isGood_270 : decode cX7_isGood 270 = .ok (.iconst 0, 1) := by decide +kernel
theorem dX7_isGood_271 : decode cX7_isGood 271 = .ok (.ireturn, 1) := by decide +kernel
theorem dX7_isGood_272 : decode cX7_isGood 272 = .ok (.iload_n 1, 1) := by decide +kernel
theorem dX7_isGood_273 : decode cX7_isGood 273 = .ok (.bipush 108, 2) := by decide +kernel
theorem dX7_isGood_275 : decode cX7_isGood 275 = .ok (.if_icmp .ne 25, 3) := by decide +kernel
theorem dX7_isGood_278 : decode cX7_isGood 278 = .ok (.aload_n 0, 1) := by decide +kernel
theorem dX7_isGood_279 : decode cX7_isGood 279 = .ok (.getfield 26, 3) := by decide +kernel
theorem dX7_isGood_282 : decode cX7_isGood 282 = .ok (.bipush 7, 2) := by decide +kernel
theorem dX7_isGood_284 : decode cX7_isGood 284 = .ok (.aload_n 0, 1) := by decide +kernel
theorem dX7_isGood_285 : decode cX7_isGood 285 = .ok (.getfield 69, 3) := by decide +kernel
theorem dX7_isGood_288 : decode cX7_isGood 288 = .ok (.iconst 0, 1) := by decide +kernel
theorem dX7_isGood_289 : decode cX7_isGood 289 = .ok (.iaload, 1) := by decide +kernel
theorem dX7_isGood_290 : decode cX7_isGood 290 = .ok (.iastore, 1) := by decide +kernel
theorem dX7_isGood_291 : decode cX7_isGood 291 = .ok (.aload_n 0, 1) := by decide +kernel
theorem dX7_isGood_292 : decode cX7_isGood 292 = .ok (.iconst 0, 1) := by decide +kernel
theorem dX7_isGood_293 : decode cX7_isGood 293 = .ok (.iconst 1, 1) := by decide +kernel
theorem dX7_isGood_294 : decode cX7_isGood 294 = .ok (.bipush 99, 2) := by decide +kernel
theorem dX7_isGood_296 : decode cX7_isGood 296 = .ok (.invokevirtual 109, 3) := by decide +kernel
theorem dX7_isGood_299 : decode cX7_isGood 299 = .ok (.ireturn, 1) := by decide +kernel
theorem dX7_isGood_300 : decode cX7_isGood 300 = .ok (.iload_n 1, 1) := by decide +kernel
theorem dX7_isGood_301 : decode cX7_isGood 301 = .ok (.bipush 119, 2) := by decide +kernel
theorem dX7_isGood_303 : decode cX7_isGood 303 = .ok (.if_icmp .ne 25, 3) := by decide +kernel
theorem dX7_isGood_306 : decode cX7_isGood 306 = .ok (.aload_n 0, 1) := by decide +kernel
theorem dX7_isGood_307 : decode cX7_isGood 307 = .ok (.getfield 26, 3) := by decide +kernel
theorem dX7_isGood_310 : decode cX7_isGood 310 = .ok (.bipush 8, 2) := by decide +kernel
theorem dX7_isGood_312 : decode cX7_isGood 312 = .ok (.aload_n 0, 1) := by decide +kernel
theorem dX7_isGood_313 : decode cX7_isGood 313 = .ok (.getfield 69, 3) := by decide +kernel
theorem dX7_isGood_316 : decode cX7_isGood 316 = .ok (.iconst 0, 1) := by decide +kernel
theorem dX7_isGood_317 : decode cX7_isGood 317 = .ok (.iaload, 1) := by decide +kernel
theorem dX7_isGood_318 : decode cX7_isGood 318 = .ok (.iastore, 1) := by decide +kernel
theorem dX7_isGood_319 : decode cX7_isGood 319 = .ok (.aload_n 0, 1) := by decide +kernel
theorem dX7_isGood_320 : decode cX7_isGood 320 = .ok (.iconst 0, 1) := by decide +kernel
theorem dX7_isGood_321 : decode cX7_isGood 321 = .ok (.iconst 0, 1) := by decide +kernel
theorem dX7_isGood_322 : decode cX7_isGood 322 = .ok (.bipush 99, 2) := by decide +kernel
theorem dX7_isGood_324 : decode cX7_isGood 324 = .ok (.invokevirtual 109, 3) := by decide +kernel
theorem dX7_isGood_327 : decode cX7_isGood 327 = .ok (.ireturn, 1) := by decide +kernel
theorem dX7_isGood_328 : decode cX7_isGood 328 = .ok (.aload_n 0, 1) := by decide +kernel
theorem dX7_isGood_329 : decode cX7_isGood 329 = .ok (.getfield 26, 3) := by decide +kernel
theorem dX7_isGood_332 : decode cX7_isGood 332 = .ok (.bipush 9, 2) := by decide +kernel
theorem dX7_isGood_334 : decode cX7_isGood 334 = .ok (.aload_n 0, 1) := by decide +kernel
theorem dX7_isGood_335 : decode cX7_isGood 335 = .ok (.getfield 69, 3) := by decide +kernel
theorem dX7_isGood_338 : decode cX7_isGood 338 = .ok (.iconst 0, 1) := by decide +kernel
theorem dX7_isGood_339 : decode cX7_isGood 339 = .ok (.iaload, 1) := by decide +kernel
theorem dX7_isGood_340 : decode cX7_isGood 340 = .ok (.iastore, 1) := by decide +kernel
theorem dX7_isGood_341 : decode cX7_isGood 341 = .ok (.aload_n 0, 1) := by decide +kernel
theorem dX7_isGood_342 : decode cX7_isGood 342 = .ok (.iconst 0, 1) := by decide +kernel
theorem dX7_isGood_343 : decode cX7_isGood 343 = .ok (.iconst 0, 1) := by decide +kernel
theorem dX7_isGood_344 : decode cX7_isGood 344 = .ok (.bipush 30, 2) := by decide +kernel
theorem dX7_isGood_346 : decode cX7_isGood 346 = .ok (.invokevirtual 109, 3) := by decide +kernel
theorem dX7_isGood_349 : decode cX7_isGood 349 = .ok (.ireturn, 1) := by decide +kernel
theorem dX7_isGood_350 : decode cX7_isGood 350 = .ok (.iconst 1, 1) := by decide +kernel
theorem dX7_isGood_351 : decode cX7_isGood 351 = .ok (.ireturn, 1) := by decide +kernel
theorem dX7_begins_0 : decode cX7_begins 0 = .ok (.aload_n 0, 1) := by decide +kernel
theorem dX7_begins_1 : decode cX7_begins 1 = .ok (.getfield 13, 3) := by decide +kernel
theorem dX7_begins_4 : decode cX7_begins 4 = .ok (.iconst 1, 1) := by decide +kernel
theorem dX7_begins_5 : decode cX7_begins 5 = .ok (.iconst 0, 1) := by decide +kernel
theorem dX7_begins_6 : decode cX7_begins 6 = .ok (.iastore, 1) := by decide +kernel
theorem dX7_begins_7 : decode cX7_begins 7 = .ok (.aload_n 0, 1) := by decide +kernel
theorem dX7_begins_8 : decode cX7_begins 8 = .ok (.getfield 17, 3) := by decide +kernel
theorem dX7_begins_11 : decode cX7_begins 11 = .ok (.iconst 1, 1) := by decide +kernel
theorem dX7_begins_12 : decode cX7_begins 12 = .ok (.iconst 0, 1) := by decide +kernel
theorem dX7_begins_13 : decode cX7_begins 13 = .ok (.iastore, 1) := by decide +kernel
theorem dX7_begins_14 : decode cX7_begins 14 = .ok (.aload_n 0, 1) := by decide +kernel
theorem dX7_begins_15 : decode cX7_begins 15 = .ok (.getfield 26, 3) := by decide +kernel
theorem dX7_begins_18 : decode cX7_begins 18 = .ok (.iconst 5, 1) := by decide +kernel
theorem dX7_begins_19 : decode cX7_begins 19 = .ok (.bipush 30, 2) := by decide +kernel
theorem dX7_begins_21 : decode cX7_begins 21 = .ok (.iastore, 1) := by decide +kernel
theorem dX7_begins_22 : decode cX7_begins 22 = .ok (.aload_n 0, 1) := by decide +kernel
theorem dX7_begins_23 : decode cX7_begins 23 = .ok (.getfield 26, 3) := by decide +kernel
theorem dX7_begins_26 : decode cX7_begins 26 = .ok (.bipush 6, 2) := by decide +kernel
theorem dX7_begins_28 : decode cX7_begins 28 = .ok (.bipush 20, 2) := by decide +kernel
theorem dX7_begins_30 : decode cX7_begins 30 = .ok (.iastore, 1) := by decide +kernel
theorem dX7_begins_31 : decode cX7_begins 31 = .ok (.aload_n 0, 1) := by decide +kernel
theorem dX7_begins_32 : decode cX7_begins 32 = .ok (.getfield 26, 3) := by decide +kernel
theorem dX7_begins_35 : decode cX7_begins 35 = .ok (.bipush 7, 2) := by decide +kernel
theorem dX7_begins_37 : decode cX7_begins 37 = .ok (.bipush 15, 2) := by decide +kernel
theorem dX7_begins_39 : decode cX7_begins 39 = .ok (.iastore, 1) := by decide +kernel
theorem dX7_begins_40 : decode cX7_begins 40 = .ok (.aload_n 0, 1) := by decide +kernel
theorem dX7_begins_41 : decode cX7_begins 41 = .ok (.getfield 26, 3) := by decide +kernel
theorem dX7_begins_44 : decode cX7_begins 44 = .ok (.bipush 8, 2) := by decide +kernel
theorem dX7_begins_46 : decode cX7_begins 46 = .ok (.bipush 20, 2) := by decide +kernel
theorem dX7_begins_48 : decode cX7_begins 48 = .ok (.iastore, 1) := by decide +kernel
theorem dX7_begins_49 : decode cX7_begins 49 = .ok (.aload_n 0, 1) := by decide +kernel
theorem dX7_begins_50 : decode cX7_begins 50 = .ok (.getfield 26, 3) := by decide +kernel
theorem dX7_begins_53 : decode cX7_begins 53 = .ok (.bipush 9, 2) := by decide +kernel
theorem dX7_begins_55 : decode cX7_begins 55 = .ok (.iconst 0, 1) := by decide +kernel
theorem dX7_begins_56 : decode cX7_begins 56 = .ok (.iastore, 1) := by decide +kernel
theorem dX7_begins_57 : decode cX7_begins 57 = .ok (.return_, 1) := by decide +kernel
theorem dX7_takes_0 : decode cX7_takes 0 = .ok (.aload_n 0, 1) := by decide +kernel
theorem dX7_takes_1 : decode cX7_takes 1 = .ok (.getfield 13, 3) := by decide +kernel
theorem dX7_takes_4 : decode cX7_takes 4 = .ok (.iconst 0, 1) := by decide +kernel
theorem dX7_takes_5 : decode cX7_takes 5 = .ok (.aload_n 0, 1) := by decide +kernel
theorem dX7_takes_6 : decode cX7_takes 6 = .ok (.getfield 13, 3) := by decide +kernel
theorem dX7_takes_9 : decode cX7_takes 9 = .ok (.iconst 1, 1) := by decide +kernel
theorem dX7_takes_10 : decode cX7_takes 10 = .ok (.iaload, 1) := by decide +kernel
theorem dX7_takes_11 : decode cX7_takes 11 = .ok (.iastore, 1) := by decide +kernel
theorem dX7_takes_12 : decode cX7_takes 12 = .ok (.aload_n 0, 1) := by decide +kernel
theorem dX7_takes_13 : decode cX7_takes 13 = .ok (.getfield 17, 3) := by decide +kernel
theorem dX7_takes_16 : decode cX7_takes 16 = .ok (.iconst 0, 1) := by decide +kernel
theorem dX7_takes_17 : decode cX7_takes 17 = .ok (.aload_n 0, 1) := by decide +kernel
theorem dX7_takes_18 : decode cX7_takes 18 = .ok (.getfield 17, 3) := by decide +kernel
theorem dX7_takes_21 : decode cX7_takes 21 = .ok (.iconst 1, 1) := by decide +kernel
theorem dX7_takes_22 : decode cX7_takes 22 = .ok (.iaload, 1) := by decide +kernel
theorem dX7_takes_23 : decode cX7_takes 23 = .ok (.iastore, 1) := by decide +kernel
theorem dX7_takes_24 : decode cX7_takes 24 = .ok (.iconst 0, 1) := by decide +kernel
theorem dX7_takes_25 : decode cX7_takes 25 = .ok (.istore_n 1, 1) := by decide +kernel
theorem dX7_takes_26 : decode cX7_takes 26 = .ok (.iload_n 1, 1) := by decide +kernel
theorem dX7_takes_27 : decode cX7_takes 27 = .ok (.bipush 56, 2) := by decide +kernel
theorem dX7_takes_29 : decode cX7_takes 29 = .ok (.if_icmp .ge 64, 3) := by decide +kernel
theorem dX7_takes_32 : decode cX7_takes 32 = .ok (.aload_n 0, 1) := by decide +kernel
theorem dX7_takes_33 : decode cX7_takes 33 = .ok (.getfield 23, 3) := by decide +kernel
theorem dX7_takes_36 : decode cX7_takes 36 = .ok (.iload_n 1, 1) := by decide +kernel
theorem dX7_takes_37 : decode cX7_takes 37 = .ok (.aload_n 0, 1) := by decide +kernel
theorem dX7_takes_38 : decode cX7_takes 38 = .ok (.getfield 23, 3) := by decide +kernel
theorem dX7_takes_41 : decode cX7_takes 41 = .ok (.bipush 56, 2) := by decide +kernel
theorem dX7_takes_43 : decode cX7_takes 43 = .ok (.iload_n 1, 1) := by decide +kernel
theorem dX7_takes_44 : decode cX7_takes 44 = .ok (.iadd, 1) := by decide +kernel
theorem dX7_takes_45 : decode cX7_takes 45 = .ok (.iaload, 1) := by decide +kernel
theorem dX7_takes_46 : decode cX7_takes 46 = .ok (.iastore, 1) := by decide +kernel
theorem dX7_takes_47 : decode cX7_takes 47 = .ok (.iload_n 1, 1) := by decide +kernel
theorem dX7_takes_48 : decode cX7_takes 48 = .ok (.bipush 10, 2) := by decide +kernel
theorem dX7_takes_50 : decode cX7_takes 50 = .ok (.if_icmp .ge 18, 3) := by decide +kernel
theorem dX7_takes_53 : decode cX7_takes 53 = .ok (.aload_n 0, 1) := by decide +kernel
theorem dX7_takes_54 : decode cX7_takes 54 = .ok (.getfield 20, 3) := by decide +kernel
theorem dX7_takes_57 : decode cX7_takes 57 = .ok (.iload_n 1, 1) := by decide +kernel
theorem dX7_takes_58 : decode cX7_takes 58 = .ok (.aload_n 0, 1) := by decide +kernel
theorem dX7_takes_59 : decode cX7_takes 59 = .ok (.getfield 20, 3) := by decide +kernel
theorem dX7_takes_62 : decode cX7_takes 62 = .ok (.bipush 10, 2) := by decide +kernel
theorem dX7_takes_64 : decode cX7_takes 64 = .ok (.iload_n 1, 1) := by decide +kernel
theorem dX7_takes_65 : decode cX7_takes 65 = .ok (.iadd, 1) := by decide +kernel
theorem dX7_takes_66 : decode cX7_takes 66 = .ok (.iaload, 1) := by decide +kernel
theorem dX7_takes_67 : decode cX7_takes 67 = .ok (.iastore, 1) := by decide +kernel
theorem dX7_takes_68 : decode cX7_takes 68 = .ok (.iload_n 1, 1) := by decide +kernel
theorem dX7_takes_69 : decode cX7_takes 69 = .ok (.iconst 5, 1) := by decide +kernel
theorem dX7_takes_70 : decode cX7_takes 70 = .ok (.if_icmp .ge 17, 3) := by decide +kernel
theorem dX7_takes_73 : decode cX7_takes 73 = .ok (.aload_n 0, 1) := by decide +kernel
theorem dX7_takes_74 : decode cX7_takes 74 = .ok (.getfield 26, 3) := by decide +kernel
theorem dX7_takes_77 : decode cX7_takes 77 = .ok (.iload_n 1, 1) := by decide +kernel
theorem dX7_takes_78 : decode cX7_takes 78 = .ok (.aload_n 0, 1) := by decide +kernel
theorem dX7_takes_79 : decode cX7_takes 79 = .ok (.getfield 26, 3) := by decide +kernel
theorem dX7_takes_82 : decode cX7_takes 82 = .ok (.iconst 5, 1) := by decide +kernel
theorem dX7_takes_83 : decode cX7_takes 83 = .ok (.iload_n 1, 1) := by decide +kernel
theorem dX7_takes_84 : decode cX7_takes 84 = .ok (.iadd, 1) := by decide +kernel
theorem dX7_takes_85 : decode cX7_takes 85 = .ok (.iaload, 1) := by decide +kernel
theorem dX7_takes_86 : decode cX7_takes 86 = .ok (.iastore, 1) := by decide +kernel
theorem dX7_takes_87 : decode cX7_takes 87 = .ok (.iinc 1 1, 3) := by decide +kernel
theorem dX7_takes_90 : decode cX7_takes 90 = .ok (.goto (-64), 3) := by decide +kernel
theorem dX7_takes_93 : decode cX7_takes 93 = .ok (.aload_n 0, 1) := by decide +kernel
theorem dX7_takes_94 : decode cX7_takes 94 = .ok (.iconst 1, 1) := by decide +kernel
theorem dX7_takes_95 : decode cX7_takes 95 = .ok (.aload_n 0, 1) := by decide +kernel
theorem dX7_takes_96 : decode cX7_takes 96 = .ok (.getfield 17, 3) := by decide +kernel
theorem dX7_takes_99 : decode cX7_takes 99 = .ok (.iconst 0, 1) := by decide +kernel
theorem dX7_takes_100 : decode cX7_takes 100 = .ok (.iaload, 1) := by decide +kernel
theorem dX7_takes_101 : decode cX7_takes 101 = .ok (.ishl, 1) := by decide +kernel
theorem dX7_takes_102 : decode cX7_takes 102 = .ok (.iconst 1, 1) := by decide +kernel
theorem dX7_takes_103 : decode cX7_takes 103 = .ok (.isub, 1) := by decide +kernel
theorem dX7_takes_104 : decode cX7_takes 104 = .ok (.putfield 113, 3) := by decide +kernel
theorem dX7_takes_107 : decode cX7_takes 107 = .ok (.aload_n 0, 1) := by decide +kernel
theorem dX7_takes_108 : decode cX7_takes 108 = .ok (.iconst 0, 1) := by decide +kernel
theorem dX7_takes_109 : decode cX7_takes 109 = .ok (.putfield 116, 3) := by decide +kernel
theorem dX7_takes_112 : decode cX7_takes 112 = .ok (.return_, 1) := by decide +kernel
theorem dX7_fault_0 : decode cX7_fault 0 = .ok (.aload_n 0, 1) := by decide +kernel
theorem dX7_fault_1 : decode cX7_fault 1 = .ok (.iconst 0, 1) := by decide +kernel
theorem dX7_fault_2 : decode cX7_fault 2 = .ok (.putfield 88, 3) := by decide +kernel
theorem dX7_fault_5 : decode cX7_fault 5 = .ok (.aload_n 0, 1) := by decide +kernel
theorem dX7_fault_6 : decode cX7_fault 6 = .ok (.invokevirtual 72, 3) := by decide +kernel
theorem dX7_fault_9 : decode cX7_fault 9 = .ok (.aload_n 0, 1) := by decide +kernel
theorem dX7_fault_10 : decode cX7_fault 10 = .ok (.getfield 88, 3) := by decide +kernel
theorem dX7_fault_13 : decode cX7_fault 13 = .ok (.aload_n 0, 1) := by decide +kernel
theorem dX7_fault_14 : decode cX7_fault 14 = .ok (.getfield 84, 3) := by decide +kernel
theorem dX7_fault_17 : decode cX7_fault 17 = .ok (.if_icmp .ge 20, 3) := by decide +kernel
theorem dX7_fault_20 : decode cX7_fault 20 = .ok (.aload_n 0, 1) := by decide +kernel
theorem dX7_fault_21 : decode cX7_fault 21 = .ok (.getfield 88, 3) := by decide +kernel
theorem dX7_fault_24 : decode cX7_fault 24 = .ok (.istore_n 1, 1) := by decide +kernel
theorem dX7_fault_25 : decode cX7_fault 25 = .ok (.aload_n 0, 1) := by decide +kernel
theorem dX7_fault_26 : decode cX7_fault 26 = .ok (.invokevirtual 119, 3) := by decide +kernel
theorem dX7_fault_29 : decode cX7_fault 29 = .ok (.ifCond .ne 5, 3) := by decide +kernel
theorem dX7_fault_32 : decode cX7_fault 32 = .ok (.iload_n 1, 1) := by decide +kernel
theorem dX7_fault_33 : decode cX7_fault 33 = .ok (.ireturn, 1) := by decide +kernel
theorem dX7_fault_34 : decode cX7_fault 34 = .ok (.goto (-25), 3) := by decide +kernel
theorem dX7_fault_37 : decode cX7_fault 37 = .ok (.bipush (-4), 2) := by decide +kernel
theorem dX7_fault_39 : decode cX7_fault 39 = .ok (.ireturn, 1) := by decide +kernel
theorem dX7_lay_0 : decode cX7_lay 0 = .ok (.aload_n 0, 1) := by decide +kernel
theorem dX7_lay_1 : decode cX7_lay 1 = .ok (.invokevirtual 123, 3) := by decide +kernel
theorem dX7_lay_4 : decode cX7_lay 4 = .ok (.bipush (-4), 2) := by decide +kernel
theorem dX7_lay_6 : decode cX7_lay 6 = .ok (.if_icmp .ne 21, 3) := by decide +kernel
theorem dX7_lay_9 : decode cX7_lay 9 = .ok (.aload_n 0, 1) := by decide +kernel
theorem dX7_lay_10 : decode cX7_lay 10 = .ok (.getfield 13, 3) := by decide +kernel
theorem dX7_lay_13 : decode cX7_lay 13 = .ok (.iconst 1, 1) := by decide +kernel
theorem dX7_lay_14 : decode cX7_lay 14 = .ok (.iaload, 1) := by decide +kernel
theorem dX7_lay_15 : decode cX7_lay 15 = .ok (.ifCond .eq 12, 3) := by decide +kernel
theorem dX7_lay_18 : decode cX7_lay 18 = .ok (.aload_n 0, 1) := by decide +kernel
theorem dX7_lay_19 : decode cX7_lay 19 = .ok (.getfield 17, 3) := by decide +kernel
theorem dX7_lay_22 : decode cX7_lay 22 = .ok (.iconst 1, 1) := by decide +kernel
theorem dX7_lay_23 : decode cX7_lay 23 = .ok (.iaload, 1) := by decide +kernel
theorem dX7_lay_24 : decode cX7_lay 24 = .ok (.ifCond .ne 6, 3) := by decide +kernel
theorem dX7_lay_27 : decode cX7_lay 27 = .ok (.bipush (-2), 2) := by decide +kernel
theorem dX7_lay_29 : decode cX7_lay 29 = .ok (.ireturn, 1) := by decide +kernel
theorem dX7_lay_30 : decode cX7_lay 30 = .ok (.aload_n 0, 1) := by decide +kernel
theorem dX7_lay_31 : decode cX7_lay 31 = .ok (.invokevirtual 75, 3) := by decide +kernel
theorem dX7_lay_34 : decode cX7_lay 34 = .ok (.aload_n 0, 1) := by decide +kernel
theorem dX7_lay_35 : decode cX7_lay 35 = .ok (.getfield 17, 3) := by decide +kernel
theorem dX7_lay_38 : decode cX7_lay 38 = .ok (.iconst 0, 1) := by decide +kernel
theorem dX7_lay_39 : decode cX7_lay 39 = .ok (.iaload, 1) := by decide +kernel
theorem dX7_lay_40 : decode cX7_lay 40 = .ok (.ireturn, 1) := by decide +kernel
theorem dX7_isReader_0 : decode cX7_isReader 0 = .ok (.iload_n 1, 1) := by decide +kernel
theorem dX7_isReader_1 : decode cX7_isReader 1 = .ok (.i2l, 1) := by decide +kernel
theorem dX7_isReader_2 : decode cX7_isReader 2 = .ok (.lconst 0, 1) := by decide +kernel
theorem dX7_isReader_3 : decode cX7_isReader 3 = .ok (.aload_n 0, 1) := by decide +kernel
theorem dX7_isReader_4 : decode cX7_isReader 4 = .ok (.getfield 17, 3) := by decide +kernel
theorem dX7_isReader_7 : decode cX7_isReader 7 = .ok (.iconst 0, 1) := by decide +kernel
theorem dX7_isReader_8 : decode cX7_isReader 8 = .ok (.iaload, 1) := by decide +kernel
theorem dX7_isReader_9 : decode cX7_isReader 9 = .ok (.iconst 1, 1) := by decide +kernel
theorem dX7_isReader_10 : decode cX7_isReader 10 = .ok (.isub, 1) := by decide +kernel
theorem dX7_isReader_11 : decode cX7_isReader 11 = .ok (.i2l, 1) := by decide +kernel
theorem dX7_isReader_12 : decode cX7_isReader 12 = .ok (.invokestatic 80, 3) := by decide +kernel
theorem dX7_isReader_15 : decode cX7_isReader 15 = .ok (.ireturn, 1) := by decide +kernel
theorem dX7_isRule_0 : decode cX7_isRule 0 = .ok (.iload_n 0, 1) := by decide +kernel
theorem dX7_isRule_1 : decode cX7_isRule 1 = .ok (.i2l, 1) := by decide +kernel
theorem dX7_isRule_2 : decode cX7_isRule 2 = .ok (.lconst 0, 1) := by decide +kernel
theorem dX7_isRule_3 : decode cX7_isRule 3 = .ok (.ldc2_w 126, 3) := by decide +kernel
theorem dX7_isRule_6 : decode cX7_isRule 6 = .ok (.invokestatic 80, 3) := by decide +kernel
theorem dX7_isRule_9 : decode cX7_isRule 9 = .ok (.ireturn, 1) := by decide +kernel
theorem dX7_isMinute_0 : decode cX7_isMinute 0 = .ok (.iload_n 0, 1) := by decide +kernel
theorem dX7_isMinute_1 : decode cX7_isMinute 1 = .ok (.i2l, 1) := by decide +kernel
theorem dX7_isMinute_2 : decode cX7_isMinute 2 = .ok (.lconst 0, 1) := by decide +kernel
theorem dX7_isMinute_3 : decode cX7_isMinute 3 = .ok (.ldc2_w 128, 3) := by decide +kernel
theorem dX7_isMinute_6 : decode cX7_isMinute 6 = .ok (.invokestatic 80, 3) := by decide +kernel
theorem dX7_isMinute_9 : decode cX7_isMinute 9 = .ok (.ireturn, 1) := by decide +kernel
theorem dX7_of_0 : decode cX7_of 0 = .ok (.aload_n 0, 1) := by decide +kernel
theorem dX7_of_1 : decode cX7_of 1 = .ok (.getfield 23, 3) := by decide +kernel
theorem dX7_of_4 : decode cX7_of 4 = .ok (.bipush 7, 2) := by decide +kernel
theorem dX7_of_6 : decode cX7_of 6 = .ok (.iload_n 1, 1) := by decide +kernel
theorem dX7_of_7 : decode cX7_of 7 = .ok (.imul, 1) := by decide +kernel
theorem dX7_of_8 : decode cX7_of 8 = .ok (.iload_n 2, 1) := by decide +kernel
theorem dX7_of_9 : decode cX7_of 9 = .ok (.iadd, 1) := by decide +kernel
theorem dX7_of_10 : decode cX7_of 10 = .ok (.iaload, 1) := by decide +kernel
theorem dX7_of_11 : decode cX7_of 11 = .ok (.ireturn, 1) := by decide +kernel
theorem dX7_reader_0 : decode cX7_reader 0 = .ok (.aload_n 0, 1) := by decide +kernel
theorem dX7_reader_1 : decode cX7_reader 1 = .ok (.iload_n 1, 1) := by decide +kernel
theorem dX7_reader_2 : decode cX7_reader 2 = .ok (.invokevirtual 130, 3) := by decide +kernel
theorem dX7_reader_5 : decode cX7_reader 5 = .ok (.ifCond .eq 15, 3) := by decide +kernel
theorem dX7_reader_8 : decode cX7_reader 8 = .ok (.iload_n 2, 1) := by decide +kernel
theorem dX7_reader_9 : decode cX7_reader 9 = .ok (.i2l, 1) := by decide +kernel
theorem dX7_reader_10 : decode cX7_reader 10 = .ok (.lconst 0, 1) := by decide +kernel
theorem dX7_reader_11 : decode cX7_reader 11 = .ok (.ldc2_w 133, 3) := by decide +kernel
theorem dX7_reader_14 : decode cX7_reader 14 = .ok (.invokestatic 80, 3) := by decide +kernel
theorem dX7_reader_17 : decode cX7_reader 17 = .ok (.ifCond .ne 7, 3) := by decide +kernel
theorem dX7_reader_20 : decode cX7_reader 20 = .ok (.iconst (-1), 1) := by decide +kernel
theorem dX7_reader_21 : decode cX7_reader 21 = .ok (.goto 26, 3) := by decide +kernel
theorem dX7_reader_24 : decode cX7_reader 24 = .ok (.iload_n 2, 1) := by decide +kernel
theorem dX7_reader_25 : decode cX7_reader 25 = .ok (.bipush 7, 2) := by decide +kernel
theorem dX7_reader_27 : decode cX7_reader 27 = .ok (.if_icmp .ge 12, 3) := by decide +kernel
theorem dX7_reader_30 : decode cX7_reader 30 = .ok (.aload_n 0, 1) := by decide +kernel
theorem dX7_reader_31 : decode cX7_reader 31 = .ok (.iload_n 1, 1) := by decide +kernel
theorem dX7_reader_32 : decode cX7_reader 32 = .ok (.iload_n 2, 1) := by decide +kernel
theorem dX7_reader_33 : decode cX7_reader 33 = .ok (.invokevirtual 135, 3) := by decide +kernel
theorem dX7_reader_36 : decode cX7_reader 36 = .ok (.goto 11, 3) := by decide +kernel
theorem dX7_reader_39 : decode cX7_reader 39 = .ok (.aload_n 0, 1) := by decide +kernel
theorem dX7_reader_40 : decode cX7_reader 40 = .ok (.getfield 113, 3) := by decide +kernel
theorem dX7_reader_43 : decode cX7_reader 43 = .ok (.iload_n 1, 1) := by decide +kernel
theorem dX7_reader_44 : decode cX7_reader 44 = .ok (.ishr, 1) := by decide +kernel
theorem dX7_reader_45 : decode cX7_reader 45 = .ok (.iconst 1, 1) := by decide +kernel
theorem dX7_reader_46 : decode cX7_reader 46 = .ok (.iand, 1) := by decide +kernel
theorem dX7_reader_47 : decode cX7_reader 47 = .ok (.ireturn, 1) := by decide +kernel
theorem dX7_kind_0 : decode cX7_kind 0 = .ok (.iload_n 1, 1) := by decide +kernel
theorem dX7_kind_1 : decode cX7_kind 1 = .ok (.i2l, 1) := by decide +kernel
theorem dX7_kind_2 : decode cX7_kind 2 = .ok (.lconst 0, 1) := by decide +kernel
theorem dX7_kind_3 : decode cX7_kind 3 = .ok (.aload_n 0, 1) := by decide +kernel
theorem dX7_kind_4 : decode cX7_kind 4 = .ok (.getfield 13, 3) := by decide +kernel
theorem dX7_kind_7 : decode cX7_kind 7 = .ok (.iconst 0, 1) := by decide +kernel
theorem dX7_kind_8 : decode cX7_kind 8 = .ok (.iaload, 1) := by decide +kernel
theorem dX7_kind_9 : decode cX7_kind 9 = .ok (.iconst 1, 1) := by decide +kernel
theorem dX7_kind_10 : decode cX7_kind 10 = .ok (.isub, 1) := by decide +kernel
theorem dX7_kind_11 : decode cX7_kind 11 = .ok (.i2l, 1) := by decide +kernel
theorem dX7_kind_12 : decode cX7_kind 12 = .ok (.invokestatic 80, 3) := by decide +kernel
theorem dX7_kind_15 : decode cX7_kind 15 = .ok (.ifCond .eq 12, 3) := by decide +kernel
theorem dX7_kind_18 : decode cX7_kind 18 = .ok (.aload_n 0, 1) := by decide +kernel
theorem dX7_kind_19 : decode cX7_kind 19 = .ok (.getfield 20, 3) := by decide +kernel
theorem dX7_kind_22 : decode cX7_kind 22 = .ok (.iload_n 1, 1) := by decide +kernel
theorem dX7_kind_23 : decode cX7_kind 23 = .ok (.iaload, 1) := by decide +kernel
theorem dX7_kind_24 : decode cX7_kind 24 = .ok (.goto 4, 3) := by decide +kernel
theorem dX7_kind_27 : decode cX7_kind 27 = .ok (.iconst (-1), 1) := by decide +kernel
theorem dX7_kind_28 : decode cX7_kind 28 = .ok (.ireturn, 1) := by decide +kernel
theorem dX7_hold_0 : decode cX7_hold 0 = .ok (.aload_n 0, 1) := by decide +kernel
theorem dX7_hold_1 : decode cX7_hold 1 = .ok (.iload_n 1, 1) := by decide +kernel
theorem dX7_hold_2 : decode cX7_hold 2 = .ok (.invokevirtual 130, 3) := by decide +kernel
theorem dX7_hold_5 : decode cX7_hold 5 = .ok (.ifCond .ne 5, 3) := by decide +kernel
theorem dX7_hold_8 : decode cX7_hold 8 = .ok (.iconst (-1), 1) := by decide +kernel
theorem dX7_hold_9 : decode cX7_hold 9 = .ok (.ireturn, 1) := by decide +kernel
theorem dX7_hold_10 : decode cX7_hold 10 = .ok (.aload_n 0, 1) := by decide +kernel
theorem dX7_hold_11 : decode cX7_hold 11 = .ok (.getfield 113, 3) := by decide +kernel
theorem dX7_hold_14 : decode cX7_hold 14 = .ok (.iload_n 1, 1) := by decide +kernel
theorem dX7_hold_15 : decode cX7_hold 15 = .ok (.ishr, 1) := by decide +kernel
theorem dX7_hold_16 : decode cX7_hold 16 = .ok (.iconst 1, 1) := by decide +kernel
theorem dX7_hold_17 : decode cX7_hold 17 = .ok (.iand, 1) := by decide +kernel
theorem dX7_hold_18 : decode cX7_hold 18 = .ok (.istore_n 3, 1) := by decide +kernel
theorem dX7_hold_19 : decode cX7_hold 19 = .ok (.aload_n 0, 1) := by decide +kernel
theorem dX7_hold_20 : decode cX7_hold 20 = .ok (.iload_n 2, 1) := by decide +kernel
theorem dX7_hold_21 : decode cX7_hold 21 = .ok (.ifCond .eq 14, 3) := by decide +kernel
theorem dX7_hold_24 : decode cX7_hold 24 = .ok (.aload_n 0, 1) := by decide +kernel
theorem dX7_hold_25 : decode cX7_hold 25 = .ok (.getfield 113, 3) := by decide +kernel
theorem dX7_hold_28 : decode cX7_hold 28 = .ok (.iconst 1, 1) := by decide +kernel
theorem dX7_hold_29 : decode cX7_hold 29 = .ok (.iload_n 1, 1) := by decide +kernel
theorem dX7_hold_30 : decode cX7_hold 30 = .ok (.ishl, 1) := by decide +kernel
theorem dX7_hold_31 : decode cX7_hold 31 = .ok (.ior, 1) := by decide +kernel
theorem dX7_hold_32 : decode cX7_hold 32 = .ok (.goto 13, 3) := by decide +kernel
theorem dX7_hold_35 : decode cX7_hold 35 = .ok (.aload_n 0, 1) := by decide +kernel
theorem dX7_hold_36 : decode cX7_hold 36 = .ok (.getfield 113, 3) := by decide +kernel
theorem dX7_hold_39 : decode cX7_hold 39 = .ok (.iconst 1, 1) := by decide +kernel
theorem dX7_hold_40 : decode cX7_hold 40 = .ok (.iload_n 1, 1) := by decide +kernel
theorem dX7_hold_41 : decode cX7_hold 41 = .ok (.ishl, 1) := by decide +kernel
theorem dX7_hold_42 : decode cX7_hold 42 = .ok (.iconst (-1), 1) := by decide +kernel
theorem dX7_hold_43 : decode cX7_hold 43 = .ok (.ixor, 1) := by decide +kernel
theorem dX7_hold_44 : decode cX7_hold 44 = .ok (.iand, 1) := by decide +kernel
theorem dX7_hold_45 : decode cX7_hold 45 = .ok (.putfield 113, 3) := by decide +kernel
theorem dX7_hold_48 : decode cX7_hold 48 = .ok (.iload_n 3, 1) := by decide +kernel
theorem dX7_hold_49 : decode cX7_hold 49 = .ok (.ireturn, 1) := by decide +kernel
theorem dX7_comesBack_0 : decode cX7_comesBack 0 = .ok (.aload_n 0, 1) := by decide +kernel
theorem dX7_comesBack_1 : decode cX7_comesBack 1 = .ok (.getfield 35, 3) := by decide +kernel
theorem dX7_comesBack_4 : decode cX7_comesBack 4 = .ok (.iload_n 1, 1) := by decide +kernel
theorem dX7_comesBack_5 : decode cX7_comesBack 5 = .ok (.iaload, 1) := by decide +kernel
theorem dX7_comesBack_6 : decode cX7_comesBack 6 = .ok (.istore_n 3, 1) := by decide +kernel
theorem dX7_comesBack_7 : decode cX7_comesBack 7 = .ok (.aload_n 0, 1) := by decide +kernel
theorem dX7_comesBack_8 : decode cX7_comesBack 8 = .ok (.getfield 57, 3) := by decide +kernel
theorem dX7_comesBack_11 : decode cX7_comesBack 11 = .ok (.iload_n 3, 1) := by decide +kernel
theorem dX7_comesBack_12 : decode cX7_comesBack 12 = .ok (.iaload, 1) := by decide +kernel
theorem dX7_comesBack_13 : decode cX7_comesBack 13 = .ok (.iload_n 1, 1) := by decide +kernel
theorem dX7_comesBack_14 : decode cX7_comesBack 14 = .ok (.if_icmp .ne 25, 3) := by decide +kernel
theorem dX7_comesBack_17 : decode cX7_comesBack 17 = .ok (.aload_n 0, 1) := by decide +kernel
theorem dX7_comesBack_18 : decode cX7_comesBack 18 = .ok (.getfield 57, 3) := by decide +kernel
theorem dX7_comesBack_21 : decode cX7_comesBack 21 = .ok (.iload_n 3, 1) := by decide +kernel
theorem dX7_comesBack_22 : decode cX7_comesBack 22 = .ok (.iconst (-1), 1) := by decide +kernel
theorem dX7_comesBack_23 : decode cX7_comesBack 23 = .ok (.iastore, 1) := by decide +kernel
theorem dX7_comesBack_24 : decode cX7_comesBack 24 = .ok (.aload_n 0, 1) := by decide +kernel
theorem dX7_comesBack_25 : decode cX7_comesBack 25 = .ok (.getfield 54, 3) := by decide +kernel
theorem dX7_comesBack_28 : decode cX7_comesBack 28 = .ok (.iload_n 3, 1) := by decide +kernel
theorem dX7_comesBack_29 : decode cX7_comesBack 29 = .ok (.iload_n 1, 1) := by decide +kernel
theorem dX7_comesBack_30 : decode cX7_comesBack 30 = .ok (.iastore, 1) := by decide +kernel
theorem dX7_comesBack_31 : decode cX7_comesBack 31 = .ok (.aload_n 0, 1) := by decide +kernel
theorem dX7_comesBack_32 : decode cX7_comesBack 32 = .ok (.getfield 32, 3) := by decide +kernel
theorem dX7_comesBack_35 : decode cX7_comesBack 35 = .ok (.iload_n 1, 1) := by decide +kernel
theorem dX7_comesBack_36 : decode cX7_comesBack 36 = .ok (.iconst 2, 1) := by decide +kernel
end
section
theorem dX7_comesBack_37 : decode cX7_comesBack 37 = .ok (.iastore, 1) := by decide +kernel
theorem dX7_comesBack_38 : decode cX7_comesBack 38 = .ok (.return_, 1) := by decide +kernel
theorem dX7_comesBack_39 : decode cX7_comesBack 39 = .ok (.aload_n 0, 1) := by decide +kernel
theorem dX7_comesBack_40 : decode cX7_comesBack 40 = .ok (.getfield 32, 3) := by decide +kernel
theorem dX7_comesBack_43 : decode cX7_comesBack 43 = .ok (.iload_n 1, 1) := by decide +kernel
theorem dX7_comesBack_44 : decode cX7_comesBack 44 = .ok (.iconst 1, 1) := by decide +kernel
theorem dX7_comesBack_45 : decode cX7_comesBack 45 = .ok (.iastore, 1) := by decide +kernel
theorem dX7_comesBack_46 : decode cX7_comesBack 46 = .ok (.aload_n 0, 1) := by decide +kernel
theorem dX7_comesBack_47 : decode cX7_comesBack 47 = .ok (.getfield 41, 3) := by decide +kernel
theorem dX7_comesBack_50 : decode cX7_comesBack 50 = .ok (.iload_n 1, 1) := by decide +kernel
theorem dX7_comesBack_51 : decode cX7_comesBack 51 = .ok (.iload_n 2, 1) := by decide +kernel
theorem dX7_comesBack_52 : decode cX7_comesBack 52 = .ok (.iastore, 1) := by decide +kernel
theorem dX7_comesBack_53 : decode cX7_comesBack 53 = .ok (.aload_n 0, 1) := by decide +kernel
theorem dX7_comesBack_54 : decode cX7_comesBack 54 = .ok (.dup, 1) := by decide +kernel
theorem dX7_comesBack_55 : decode cX7_comesBack 55 = .ok (.getfield 139, 3) := by decide +kernel
theorem dX7_comesBack_58 : decode cX7_comesBack 58 = .ok (.aload_n 0, 1) := by decide +kernel
theorem dX7_comesBack_59 : decode cX7_comesBack 59 = .ok (.getfield 47, 3) := by decide +kernel
theorem dX7_comesBack_62 : decode cX7_comesBack 62 = .ok (.iload_n 1, 1) := by decide +kernel
theorem dX7_comesBack_63 : decode cX7_comesBack 63 = .ok (.baload, 1) := by decide +kernel
theorem dX7_comesBack_64 : decode cX7_comesBack 64 = .ok (.ifCond .eq 9, 3) := by decide +kernel
theorem dX7_comesBack_67 : decode cX7_comesBack 67 = .ok (.iconst 1, 1) := by decide +kernel
theorem dX7_comesBack_68 : decode cX7_comesBack 68 = .ok (.iload_n 1, 1) := by decide +kernel
theorem dX7_comesBack_69 : decode cX7_comesBack 69 = .ok (.ishl, 1) := by decide +kernel
theorem dX7_comesBack_70 : decode cX7_comesBack 70 = .ok (.goto 4, 3) := by decide +kernel
theorem dX7_comesBack_73 : decode cX7_comesBack 73 = .ok (.iconst 0, 1) := by decide +kernel
theorem dX7_comesBack_74 : decode cX7_comesBack 74 = .ok (.ior, 1) := by decide +kernel
theorem dX7_comesBack_75 : decode cX7_comesBack 75 = .ok (.putfield 139, 3) := by decide +kernel
theorem dX7_comesBack_78 : decode cX7_comesBack 78 = .ok (.return_, 1) := by decide +kernel
theorem dX7_frees_0 : decode cX7_frees 0 = .ok (.iconst 0, 1) := by decide +kernel
theorem dX7_frees_1 : decode cX7_frees 1 = .ok (.istore 5, 2) := by decide +kernel
theorem dX7_frees_3 : decode cX7_frees 3 = .ok (.iload 5, 2) := by decide +kernel
theorem dX7_frees_5 : decode cX7_frees 5 = .ok (.aload_n 0, 1) := by decide +kernel
theorem dX7_frees_6 : decode cX7_frees 6 = .ok (.getfield 13, 3) := by decide +kernel
theorem dX7_frees_9 : decode cX7_frees 9 = .ok (.iconst 0, 1) := by decide +kernel
theorem dX7_frees_10 : decode cX7_frees 10 = .ok (.iaload, 1) := by decide +kernel
theorem dX7_frees_11 : decode cX7_frees 11 = .ok (.if_icmp .ge 85, 3) := by decide +kernel
theorem dX7_frees_14 : decode cX7_frees 14 = .ok (.aload_n 0, 1) := by decide +kernel
theorem dX7_frees_15 : decode cX7_frees 15 = .ok (.getfield 57, 3) := by decide +kernel
theorem dX7_frees_18 : decode cX7_frees 18 = .ok (.iload 5, 2) := by decide +kernel
theorem dX7_frees_20 : decode cX7_frees 20 = .ok (.iaload, 1) := by decide +kernel
theorem dX7_frees_21 : decode cX7_frees 21 = .ok (.istore 6, 2) := by decide +kernel
theorem dX7_frees_23 : decode cX7_frees 23 = .ok (.iload_n 1, 1) := by decide +kernel
theorem dX7_frees_24 : decode cX7_frees 24 = .ok (.iconst 2, 1) := by decide +kernel
theorem dX7_frees_25 : decode cX7_frees 25 = .ok (.if_icmp .ne 14, 3) := by decide +kernel
theorem dX7_frees_28 : decode cX7_frees 28 = .ok (.iload_n 2, 1) := by decide +kernel
theorem dX7_frees_29 : decode cX7_frees 29 = .ok (.iload 4, 2) := by decide +kernel
theorem dX7_frees_31 : decode cX7_frees 31 = .ok (.irem, 1) := by decide +kernel
theorem dX7_frees_32 : decode cX7_frees 32 = .ok (.ifCond .ne 7, 3) := by decide +kernel
theorem dX7_frees_35 : decode cX7_frees 35 = .ok (.iload_n 3, 1) := by decide +kernel
theorem dX7_frees_36 : decode cX7_frees 36 = .ok (.goto 20, 3) := by decide +kernel
theorem dX7_frees_39 : decode cX7_frees 39 = .ok (.iload_n 1, 1) := by decide +kernel
theorem dX7_frees_40 : decode cX7_frees 40 = .ok (.iconst 3, 1) := by decide +kernel
theorem dX7_frees_41 : decode cX7_frees 41 = .ok (.if_icmp .ne 12, 3) := by decide +kernel
theorem dX7_frees_44 : decode cX7_frees 44 = .ok (.aload_n 0, 1) := by decide +kernel
theorem dX7_frees_45 : decode cX7_frees 45 = .ok (.getfield 26, 3) := by decide +kernel
theorem dX7_frees_48 : decode cX7_frees 48 = .ok (.iconst 2, 1) := by decide +kernel
theorem dX7_frees_49 : decode cX7_frees 49 = .ok (.iaload, 1) := by decide +kernel
theorem dX7_frees_50 : decode cX7_frees 50 = .ok (.goto 6, 3) := by decide +kernel
theorem dX7_frees_53 : decode cX7_frees 53 = .ok (.sipush 1000, 3) := by decide +kernel
theorem dX7_frees_56 : decode cX7_frees 56 = .ok (.istore 7, 2) := by decide +kernel
theorem dX7_frees_58 : decode cX7_frees 58 = .ok (.aload_n 0, 1) := by decide +kernel
theorem dX7_frees_59 : decode cX7_frees 59 = .ok (.getfield 57, 3) := by decide +kernel
theorem dX7_frees_62 : decode cX7_frees 62 = .ok (.iload 5, 2) := by decide +kernel
theorem dX7_frees_64 : decode cX7_frees 64 = .ok (.iload 6, 2) := by decide +kernel
theorem dX7_frees_66 : decode cX7_frees 66 = .ok (.ifCond .lt 21, 3) := by decide +kernel
theorem dX7_frees_69 : decode cX7_frees 69 = .ok (.iload_n 2, 1) := by decide +kernel
theorem dX7_frees_70 : decode cX7_frees 70 = .ok (.aload_n 0, 1) := by decide +kernel
theorem dX7_frees_71 : decode cX7_frees 71 = .ok (.getfield 44, 3) := by decide +kernel
theorem dX7_frees_74 : decode cX7_frees 74 = .ok (.iload 6, 2) := by decide +kernel
theorem dX7_frees_76 : decode cX7_frees 76 = .ok (.iaload, 1) := by decide +kernel
theorem dX7_frees_77 : decode cX7_frees 77 = .ok (.isub, 1) := by decide +kernel
theorem dX7_frees_78 : decode cX7_frees 78 = .ok (.iload 7, 2) := by decide +kernel
theorem dX7_frees_80 : decode cX7_frees 80 = .ok (.if_icmp .lt 7, 3) := by decide +kernel
theorem dX7_frees_83 : decode cX7_frees 83 = .ok (.iconst (-1), 1) := by decide +kernel
theorem dX7_frees_84 : decode cX7_frees 84 = .ok (.goto 5, 3) := by decide +kernel
theorem dX7_frees_87 : decode cX7_frees 87 = .ok (.iload 6, 2) := by decide +kernel
theorem dX7_frees_89 : decode cX7_frees 89 = .ok (.iastore, 1) := by decide +kernel
theorem dX7_frees_90 : decode cX7_frees 90 = .ok (.iinc 5 1, 3) := by decide +kernel
theorem dX7_frees_93 : decode cX7_frees 93 = .ok (.goto (-90), 3) := by decide +kernel
theorem dX7_frees_96 : decode cX7_frees 96 = .ok (.return_, 1) := by decide +kernel
theorem dX7_bits_0 : decode cX7_bits 0 = .ok (.iload_n 0, 1) := by decide +kernel
theorem dX7_bits_1 : decode cX7_bits 1 = .ok (.iconst 1, 1) := by decide +kernel
theorem dX7_bits_2 : decode cX7_bits 2 = .ok (.iand, 1) := by decide +kernel
theorem dX7_bits_3 : decode cX7_bits 3 = .ok (.iload_n 0, 1) := by decide +kernel
theorem dX7_bits_4 : decode cX7_bits 4 = .ok (.iconst 1, 1) := by decide +kernel
theorem dX7_bits_5 : decode cX7_bits 5 = .ok (.ishr, 1) := by decide +kernel
theorem dX7_bits_6 : decode cX7_bits 6 = .ok (.iconst 1, 1) := by decide +kernel
theorem dX7_bits_7 : decode cX7_bits 7 = .ok (.iand, 1) := by decide +kernel
theorem dX7_bits_8 : decode cX7_bits 8 = .ok (.iadd, 1) := by decide +kernel
theorem dX7_bits_9 : decode cX7_bits 9 = .ok (.ireturn, 1) := by decide +kernel
theorem dX7_takesSeat_0 : decode cX7_takesSeat 0 = .ok (.iconst (-1), 1) := by decide +kernel
theorem dX7_takesSeat_1 : decode cX7_takesSeat 1 = .ok (.istore 4, 2) := by decide +kernel
theorem dX7_takesSeat_3 : decode cX7_takesSeat 3 = .ok (.iconst 0, 1) := by decide +kernel
theorem dX7_takesSeat_4 : decode cX7_takesSeat 4 = .ok (.istore 5, 2) := by decide +kernel
theorem dX7_takesSeat_6 : decode cX7_takesSeat 6 = .ok (.iload 5, 2) := by decide +kernel
theorem dX7_takesSeat_8 : decode cX7_takesSeat 8 = .ok (.aload_n 0, 1) := by decide +kernel
theorem dX7_takesSeat_9 : decode cX7_takesSeat 9 = .ok (.getfield 13, 3) := by decide +kernel
theorem dX7_takesSeat_12 : decode cX7_takesSeat 12 = .ok (.iconst 0, 1) := by decide +kernel
theorem dX7_takesSeat_13 : decode cX7_takesSeat 13 = .ok (.iaload, 1) := by decide +kernel
theorem dX7_takesSeat_14 : decode cX7_takesSeat 14 = .ok (.if_icmp .ge 80, 3) := by decide +kernel
theorem dX7_takesSeat_17 : decode cX7_takesSeat 17 = .ok (.aload_n 0, 1) := by decide +kernel
theorem dX7_takesSeat_18 : decode cX7_takesSeat 18 = .ok (.getfield 54, 3) := by decide +kernel
theorem dX7_takesSeat_21 : decode cX7_takesSeat 21 = .ok (.iload 5, 2) := by decide +kernel
theorem dX7_takesSeat_23 : decode cX7_takesSeat 23 = .ok (.iaload, 1) := by decide +kernel
theorem dX7_takesSeat_24 : decode cX7_takesSeat 24 = .ok (.ifCond .ge 64, 3) := by decide +kernel
theorem dX7_takesSeat_27 : decode cX7_takesSeat 27 = .ok (.aload_n 0, 1) := by decide +kernel
theorem dX7_takesSeat_28 : decode cX7_takesSeat 28 = .ok (.getfield 57, 3) := by decide +kernel
theorem dX7_takesSeat_31 : decode cX7_takesSeat 31 = .ok (.iload 5, 2) := by decide +kernel
theorem dX7_takesSeat_33 : decode cX7_takesSeat 33 = .ok (.iaload, 1) := by decide +kernel
theorem dX7_takesSeat_34 : decode cX7_takesSeat 34 = .ok (.ifCond .ge 54, 3) := by decide +kernel
theorem dX7_takesSeat_37 : decode cX7_takesSeat 37 = .ok (.iload 4, 2) := by decide +kernel
theorem dX7_takesSeat_39 : decode cX7_takesSeat 39 = .ok (.ifCond .lt 40, 3) := by decide +kernel
theorem dX7_takesSeat_42 : decode cX7_takesSeat 42 = .ok (.aload_n 0, 1) := by decide +kernel
theorem dX7_takesSeat_43 : decode cX7_takesSeat 43 = .ok (.getfield 20, 3) := by decide +kernel
theorem dX7_takesSeat_46 : decode cX7_takesSeat 46 = .ok (.iload 5, 2) := by decide +kernel
theorem dX7_takesSeat_48 : decode cX7_takesSeat 48 = .ok (.iaload, 1) := by decide +kernel
theorem dX7_takesSeat_49 : decode cX7_takesSeat 49 = .ok (.aload_n 0, 1) := by decide +kernel
theorem dX7_takesSeat_50 : decode cX7_takesSeat 50 = .ok (.iload_n 2, 1) := by decide +kernel
theorem dX7_takesSeat_51 : decode cX7_takesSeat 51 = .ok (.iconst 4, 1) := by decide +kernel
theorem dX7_takesSeat_52 : decode cX7_takesSeat 52 = .ok (.invokevirtual 135, 3) := by decide +kernel
theorem dX7_takesSeat_55 : decode cX7_takesSeat 55 = .ok (.iand, 1) := by decide +kernel
theorem dX7_takesSeat_56 : decode cX7_takesSeat 56 = .ok (.invokestatic 142, 3) := by decide +kernel
theorem dX7_takesSeat_59 : decode cX7_takesSeat 59 = .ok (.aload_n 0, 1) := by decide +kernel
theorem dX7_takesSeat_60 : decode cX7_takesSeat 60 = .ok (.getfield 20, 3) := by decide +kernel
theorem dX7_takesSeat_63 : decode cX7_takesSeat 63 = .ok (.iload 4, 2) := by decide +kernel
theorem dX7_takesSeat_65 : decode cX7_takesSeat 65 = .ok (.iaload, 1) := by decide +kernel
theorem dX7_takesSeat_66 : decode cX7_takesSeat 66 = .ok (.aload_n 0, 1) := by decide +kernel
theorem dX7_takesSeat_67 : decode cX7_takesSeat 67 = .ok (.iload_n 2, 1) := by decide +kernel
theorem dX7_takesSeat_68 : decode cX7_takesSeat 68 = .ok (.iconst 4, 1) := by decide +kernel
theorem dX7_takesSeat_69 : decode cX7_takesSeat 69 = .ok (.invokevirtual 135, 3) := by decide +kernel
theorem dX7_takesSeat_72 : decode cX7_takesSeat 72 = .ok (.iand, 1) := by decide +kernel
theorem dX7_takesSeat_73 : decode cX7_takesSeat 73 = .ok (.invokestatic 142, 3) := by decide +kernel
theorem dX7_takesSeat_76 : decode cX7_takesSeat 76 = .ok (.if_icmp .le 8, 3) := by decide +kernel
theorem dX7_takesSeat_79 : decode cX7_takesSeat 79 = .ok (.iload 5, 2) := by decide +kernel
theorem dX7_takesSeat_81 : decode cX7_takesSeat 81 = .ok (.goto 5, 3) := by decide +kernel
theorem dX7_takesSeat_84 : decode cX7_takesSeat 84 = .ok (.iload 4, 2) := by decide +kernel
theorem dX7_takesSeat_86 : decode cX7_takesSeat 86 = .ok (.istore 4, 2) := by decide +kernel
theorem dX7_takesSeat_88 : decode cX7_takesSeat 88 = .ok (.iinc 5 1, 3) := by decide +kernel
theorem dX7_takesSeat_91 : decode cX7_takesSeat 91 = .ok (.goto (-85), 3) := by decide +kernel
theorem dX7_takesSeat_94 : decode cX7_takesSeat 94 = .ok (.iconst 0, 1) := by decide +kernel
theorem dX7_takesSeat_95 : decode cX7_takesSeat 95 = .ok (.istore 5, 2) := by decide +kernel
theorem dX7_takesSeat_97 : decode cX7_takesSeat 97 = .ok (.iload 5, 2) := by decide +kernel
theorem dX7_takesSeat_99 : decode cX7_takesSeat 99 = .ok (.aload_n 0, 1) := by decide +kernel
theorem dX7_takesSeat_100 : decode cX7_takesSeat 100 = .ok (.getfield 13, 3) := by decide +kernel
theorem dX7_takesSeat_103 : decode cX7_takesSeat 103 = .ok (.iconst 0, 1) := by decide +kernel
theorem dX7_takesSeat_104 : decode cX7_takesSeat 104 = .ok (.iaload, 1) := by decide +kernel
theorem dX7_takesSeat_105 : decode cX7_takesSeat 105 = .ok (.if_icmp .ge 72, 3) := by decide +kernel
theorem dX7_takesSeat_108 : decode cX7_takesSeat 108 = .ok (.iload 4, 2) := by decide +kernel
theorem dX7_takesSeat_110 : decode cX7_takesSeat 110 = .ok (.ifCond .ge 67, 3) := by decide +kernel
theorem dX7_takesSeat_113 : decode cX7_takesSeat 113 = .ok (.iload_n 1, 1) := by decide +kernel
theorem dX7_takesSeat_114 : decode cX7_takesSeat 114 = .ok (.iconst 4, 1) := by decide +kernel
theorem dX7_takesSeat_115 : decode cX7_takesSeat 115 = .ok (.if_icmp .ne 62, 3) := by decide +kernel
theorem dX7_takesSeat_118 : decode cX7_takesSeat 118 = .ok (.aload_n 0, 1) := by decide +kernel
theorem dX7_takesSeat_119 : decode cX7_takesSeat 119 = .ok (.getfield 57, 3) := by decide +kernel
theorem dX7_takesSeat_122 : decode cX7_takesSeat 122 = .ok (.iload 5, 2) := by decide +kernel
theorem dX7_takesSeat_124 : decode cX7_takesSeat 124 = .ok (.iaload, 1) := by decide +kernel
theorem dX7_takesSeat_125 : decode cX7_takesSeat 125 = .ok (.istore 6, 2) := by decide +kernel
theorem dX7_takesSeat_127 : decode cX7_takesSeat 127 = .ok (.iload 6, 2) := by decide +kernel
theorem dX7_takesSeat_129 : decode cX7_takesSeat 129 = .ok (.ifCond .lt 38, 3) := by decide +kernel
theorem dX7_takesSeat_132 : decode cX7_takesSeat 132 = .ok (.aload_n 0, 1) := by decide +kernel
theorem dX7_takesSeat_133 : decode cX7_takesSeat 133 = .ok (.iload 6, 2) := by decide +kernel
theorem dX7_takesSeat_135 : decode cX7_takesSeat 135 = .ok (.iconst 5, 1) := by decide +kernel
theorem dX7_takesSeat_136 : decode cX7_takesSeat 136 = .ok (.invokevirtual 135, 3) := by decide +kernel
theorem dX7_takesSeat_139 : decode cX7_takesSeat 139 = .ok (.aload_n 0, 1) := by decide +kernel
theorem dX7_takesSeat_140 : decode cX7_takesSeat 140 = .ok (.iload_n 2, 1) := by decide +kernel
theorem dX7_takesSeat_141 : decode cX7_takesSeat 141 = .ok (.bipush 6, 2) := by decide +kernel
theorem dX7_takesSeat_143 : decode cX7_takesSeat 143 = .ok (.invokevirtual 135, 3) := by decide +kernel
theorem dX7_takesSeat_146 : decode cX7_takesSeat 146 = .ok (.iload_n 3, 1) := by decide +kernel
theorem dX7_takesSeat_147 : decode cX7_takesSeat 147 = .ok (.aload_n 0, 1) := by decide +kernel
theorem dX7_takesSeat_148 : decode cX7_takesSeat 148 = .ok (.getfield 44, 3) := by decide +kernel
theorem dX7_takesSeat_151 : decode cX7_takesSeat 151 = .ok (.iload 6, 2) := by decide +kernel
theorem dX7_takesSeat_153 : decode cX7_takesSeat 153 = .ok (.iaload, 1) := by decide +kernel
theorem dX7_takesSeat_154 : decode cX7_takesSeat 154 = .ok (.isub, 1) := by decide +kernel
theorem dX7_takesSeat_155 : decode cX7_takesSeat 155 = .ok (.bipush 10, 2) := by decide +kernel
theorem dX7_takesSeat_157 : decode cX7_takesSeat 157 = .ok (.idiv, 1) := by decide +kernel
theorem dX7_takesSeat_158 : decode cX7_takesSeat 158 = .ok (.iadd, 1) := by decide +kernel
theorem dX7_takesSeat_159 : decode cX7_takesSeat 159 = .ok (.if_icmp .gt 8, 3) := by decide +kernel
theorem dX7_takesSeat_162 : decode cX7_takesSeat 162 = .ok (.iload 5, 2) := by decide +kernel
theorem dX7_takesSeat_164 : decode cX7_takesSeat 164 = .ok (.goto 5, 3) := by decide +kernel
theorem dX7_takesSeat_167 : decode cX7_takesSeat 167 = .ok (.iload 4, 2) := by decide +kernel
theorem dX7_takesSeat_169 : decode cX7_takesSeat 169 = .ok (.istore 4, 2) := by decide +kernel
theorem dX7_takesSeat_171 : decode cX7_takesSeat 171 = .ok (.iinc 5 1, 3) := by decide +kernel
theorem dX7_takesSeat_174 : decode cX7_takesSeat 174 = .ok (.goto (-77), 3) := by decide +kernel
theorem dX7_takesSeat_177 : decode cX7_takesSeat 177 = .ok (.iload 4, 2) := by decide +kernel
theorem dX7_takesSeat_179 : decode cX7_takesSeat 179 = .ok (.ireturn, 1) := by decide +kernel
theorem dX7_seeks_0 : decode cX7_seeks 0 = .ok (.aload_n 0, 1) := by decide +kernel
theorem dX7_seeks_1 : decode cX7_seeks 1 = .ok (.iload_n 1, 1) := by decide +kernel
theorem dX7_seeks_2 : decode cX7_seeks 2 = .ok (.iload_n 2, 1) := by decide +kernel
theorem dX7_seeks_3 : decode cX7_seeks 3 = .ok (.iload_n 3, 1) := by decide +kernel
theorem dX7_seeks_4 : decode cX7_seeks 4 = .ok (.invokevirtual 145, 3) := by decide +kernel
theorem dX7_seeks_7 : decode cX7_seeks 7 = .ok (.istore 4, 2) := by decide +kernel
theorem dX7_seeks_9 : decode cX7_seeks 9 = .ok (.iload 4, 2) := by decide +kernel
theorem dX7_seeks_11 : decode cX7_seeks 11 = .ok (.ifCond .lt 37, 3) := by decide +kernel
theorem dX7_seeks_14 : decode cX7_seeks 14 = .ok (.aload_n 0, 1) := by decide +kernel
theorem dX7_seeks_15 : decode cX7_seeks 15 = .ok (.getfield 57, 3) := by decide +kernel
theorem dX7_seeks_18 : decode cX7_seeks 18 = .ok (.iload 4, 2) := by decide +kernel
theorem dX7_seeks_20 : decode cX7_seeks 20 = .ok (.iconst (-1), 1) := by decide +kernel
theorem dX7_seeks_21 : decode cX7_seeks 21 = .ok (.iastore, 1) := by decide +kernel
theorem dX7_seeks_22 : decode cX7_seeks 22 = .ok (.aload_n 0, 1) := by decide +kernel
theorem dX7_seeks_23 : decode cX7_seeks 23 = .ok (.getfield 54, 3) := by decide +kernel
theorem dX7_seeks_26 : decode cX7_seeks 26 = .ok (.iload 4, 2) := by decide +kernel
theorem dX7_seeks_28 : decode cX7_seeks 28 = .ok (.iload_n 2, 1) := by decide +kernel
theorem dX7_seeks_29 : decode cX7_seeks 29 = .ok (.iastore, 1) := by decide +kernel
theorem dX7_seeks_30 : decode cX7_seeks 30 = .ok (.aload_n 0, 1) := by decide +kernel
theorem dX7_seeks_31 : decode cX7_seeks 31 = .ok (.getfield 35, 3) := by decide +kernel
theorem dX7_seeks_34 : decode cX7_seeks 34 = .ok (.iload_n 2, 1) := by decide +kernel
theorem dX7_seeks_35 : decode cX7_seeks 35 = .ok (.iload 4, 2) := by decide +kernel
theorem dX7_seeks_37 : decode cX7_seeks 37 = .ok (.iastore, 1) := by decide +kernel
theorem dX7_seeks_38 : decode cX7_seeks 38 = .ok (.aload_n 0, 1) := by decide +kernel
theorem dX7_seeks_39 : decode cX7_seeks 39 = .ok (.getfield 32, 3) := by decide +kernel
theorem dX7_seeks_42 : decode cX7_seeks 42 = .ok (.iload_n 2, 1) := by decide +kernel
theorem dX7_seeks_43 : decode cX7_seeks 43 = .ok (.iconst 2, 1) := by decide +kernel
theorem dX7_seeks_44 : decode cX7_seeks 44 = .ok (.iastore, 1) := by decide +kernel
theorem dX7_seeks_45 : decode cX7_seeks 45 = .ok (.goto 39, 3) := by decide +kernel
theorem dX7_seeks_48 : decode cX7_seeks 48 = .ok (.iload_n 3, 1) := by decide +kernel
theorem dX7_seeks_49 : decode cX7_seeks 49 = .ok (.aload_n 0, 1) := by decide +kernel
theorem dX7_seeks_50 : decode cX7_seeks 50 = .ok (.getfield 41, 3) := by decide +kernel
theorem dX7_seeks_53 : decode cX7_seeks 53 = .ok (.iload_n 2, 1) := by decide +kernel
theorem dX7_seeks_54 : decode cX7_seeks 54 = .ok (.iaload, 1) := by decide +kernel
theorem dX7_seeks_55 : decode cX7_seeks 55 = .ok (.isub, 1) := by decide +kernel
theorem dX7_seeks_56 : decode cX7_seeks 56 = .ok (.aload_n 0, 1) := by decide +kernel
theorem dX7_seeks_57 : decode cX7_seeks 57 = .ok (.getfield 26, 3) := by decide +kernel
theorem dX7_seeks_60 : decode cX7_seeks 60 = .ok (.iconst 3, 1) := by decide +kernel
theorem dX7_seeks_61 : decode cX7_seeks 61 = .ok (.iaload, 1) := by decide +kernel
theorem dX7_seeks_62 : decode cX7_seeks 62 = .ok (.if_icmp .lt 22, 3) := by decide +kernel
theorem dX7_seeks_65 : decode cX7_seeks 65 = .ok (.aload_n 0, 1) := by decide +kernel
theorem dX7_seeks_66 : decode cX7_seeks 66 = .ok (.getfield 32, 3) := by decide +kernel
theorem dX7_seeks_69 : decode cX7_seeks 69 = .ok (.iload_n 2, 1) := by decide +kernel
theorem dX7_seeks_70 : decode cX7_seeks 70 = .ok (.iconst 4, 1) := by decide +kernel
theorem dX7_seeks_71 : decode cX7_seeks 71 = .ok (.iastore, 1) := by decide +kernel
theorem dX7_seeks_72 : decode cX7_seeks 72 = .ok (.aload_n 0, 1) := by decide +kernel
theorem dX7_seeks_73 : decode cX7_seeks 73 = .ok (.dup, 1) := by decide +kernel
theorem dX7_seeks_74 : decode cX7_seeks 74 = .ok (.getfield 149, 3) := by decide +kernel
theorem dX7_seeks_77 : decode cX7_seeks 77 = .ok (.iconst 1, 1) := by decide +kernel
theorem dX7_seeks_78 : decode cX7_seeks 78 = .ok (.iload_n 2, 1) := by decide +kernel
theorem dX7_seeks_79 : decode cX7_seeks 79 = .ok (.ishl, 1) := by decide +kernel
theorem dX7_seeks_80 : decode cX7_seeks 80 = .ok (.ior, 1) := by decide +kernel
theorem dX7_seeks_81 : decode cX7_seeks 81 = .ok (.putfield 149, 3) := by decide +kernel
theorem dX7_seeks_84 : decode cX7_seeks 84 = .ok (.return_, 1) := by decide +kernel
theorem dX7_sitsOn_0 : decode cX7_sitsOn 0 = .ok (.aload_n 0, 1) := by decide +kernel
theorem dX7_sitsOn_1 : decode cX7_sitsOn 1 = .ok (.getfield 35, 3) := by decide +kernel
theorem dX7_sitsOn_4 : decode cX7_sitsOn 4 = .ok (.iload_n 3, 1) := by decide +kernel
theorem dX7_sitsOn_5 : decode cX7_sitsOn 5 = .ok (.iaload, 1) := by decide +kernel
theorem dX7_sitsOn_6 : decode cX7_sitsOn 6 = .ok (.istore 5, 2) := by decide +kernel
theorem dX7_sitsOn_8 : decode cX7_sitsOn 8 = .ok (.aload_n 0, 1) := by decide +kernel
theorem dX7_sitsOn_9 : decode cX7_sitsOn 9 = .ok (.getfield 38, 3) := by decide +kernel
theorem dX7_sitsOn_12 : decode cX7_sitsOn 12 = .ok (.iload_n 3, 1) := by decide +kernel
theorem dX7_sitsOn_13 : decode cX7_sitsOn 13 = .ok (.dup2, 1) := by decide +kernel
theorem dX7_sitsOn_14 : decode cX7_sitsOn 14 = .ok (.iaload, 1) := by decide +kernel
theorem dX7_sitsOn_15 : decode cX7_sitsOn 15 = .ok (.iconst 1, 1) := by decide +kernel
theorem dX7_sitsOn_16 : decode cX7_sitsOn 16 = .ok (.iadd, 1) := by decide +kernel
theorem dX7_sitsOn_17 : decode cX7_sitsOn 17 = .ok (.iastore, 1) := by decide +kernel
theorem dX7_sitsOn_18 : decode cX7_sitsOn 18 = .ok (.aload_n 0, 1) := by decide +kernel
theorem dX7_sitsOn_19 : decode cX7_sitsOn 19 = .ok (.getfield 38, 3) := by decide +kernel
theorem dX7_sitsOn_22 : decode cX7_sitsOn 22 = .ok (.iload_n 3, 1) := by decide +kernel
theorem dX7_sitsOn_23 : decode cX7_sitsOn 23 = .ok (.iaload, 1) := by decide +kernel
theorem dX7_sitsOn_24 : decode cX7_sitsOn 24 = .ok (.aload_n 0, 1) := by decide +kernel
theorem dX7_sitsOn_25 : decode cX7_sitsOn 25 = .ok (.iload_n 3, 1) := by decide +kernel
theorem dX7_sitsOn_26 : decode cX7_sitsOn 26 = .ok (.iconst 1, 1) := by decide +kernel
theorem dX7_sitsOn_27 : decode cX7_sitsOn 27 = .ok (.invokevirtual 135, 3) := by decide +kernel
theorem dX7_sitsOn_30 : decode cX7_sitsOn 30 = .ok (.if_icmp .ne 21, 3) := by decide +kernel
theorem dX7_sitsOn_33 : decode cX7_sitsOn 33 = .ok (.aload_n 0, 1) := by decide +kernel
theorem dX7_sitsOn_34 : decode cX7_sitsOn 34 = .ok (.getfield 32, 3) := by decide +kernel
theorem dX7_sitsOn_37 : decode cX7_sitsOn 37 = .ok (.iload_n 3, 1) := by decide +kernel
theorem dX7_sitsOn_38 : decode cX7_sitsOn 38 = .ok (.iconst 4, 1) := by decide +kernel
theorem dX7_sitsOn_39 : decode cX7_sitsOn 39 = .ok (.iastore, 1) := by decide +kernel
theorem dX7_sitsOn_40 : decode cX7_sitsOn 40 = .ok (.aload_n 0, 1) := by decide +kernel
theorem dX7_sitsOn_41 : decode cX7_sitsOn 41 = .ok (.getfield 54, 3) := by decide +kernel
theorem dX7_sitsOn_44 : decode cX7_sitsOn 44 = .ok (.iload 5, 2) := by decide +kernel
theorem dX7_sitsOn_46 : decode cX7_sitsOn 46 = .ok (.iconst (-1), 1) := by decide +kernel
theorem dX7_sitsOn_47 : decode cX7_sitsOn 47 = .ok (.iastore, 1) := by decide +kernel
theorem dX7_sitsOn_48 : decode cX7_sitsOn 48 = .ok (.goto 87, 3) := by decide +kernel
theorem dX7_sitsOn_51 : decode cX7_sitsOn 51 = .ok (.aload_n 0, 1) := by decide +kernel
theorem dX7_sitsOn_52 : decode cX7_sitsOn 52 = .ok (.getfield 38, 3) := by decide +kernel
theorem dX7_sitsOn_55 : decode cX7_sitsOn 55 = .ok (.iload_n 3, 1) := by decide +kernel
theorem dX7_sitsOn_56 : decode cX7_sitsOn 56 = .ok (.iaload, 1) := by decide +kernel
theorem dX7_sitsOn_57 : decode cX7_sitsOn 57 = .ok (.aload_n 0, 1) := by decide +kernel
theorem dX7_sitsOn_58 : decode cX7_sitsOn 58 = .ok (.iload_n 3, 1) := by decide +kernel
theorem dX7_sitsOn_59 : decode cX7_sitsOn 59 = .ok (.iconst 2, 1) := by decide +kernel
theorem dX7_sitsOn_60 : decode cX7_sitsOn 60 = .ok (.invokevirtual 135, 3) := by decide +kernel
theorem dX7_sitsOn_63 : decode cX7_sitsOn 63 = .ok (.if_icmp .ne 72, 3) := by decide +kernel
theorem dX7_sitsOn_66 : decode cX7_sitsOn 66 = .ok (.aload_n 0, 1) := by decide +kernel
theorem dX7_sitsOn_67 : decode cX7_sitsOn 67 = .ok (.getfield 32, 3) := by decide +kernel
theorem dX7_sitsOn_70 : decode cX7_sitsOn 70 = .ok (.iload_n 3, 1) := by decide +kernel
theorem dX7_sitsOn_71 : decode cX7_sitsOn 71 = .ok (.iconst 3, 1) := by decide +kernel
theorem dX7_sitsOn_72 : decode cX7_sitsOn 72 = .ok (.iastore, 1) := by decide +kernel
theorem dX7_sitsOn_73 : decode cX7_sitsOn 73 = .ok (.aload_n 0, 1) := by decide +kernel
theorem dX7_sitsOn_74 : decode cX7_sitsOn 74 = .ok (.getfield 44, 3) := by decide +kernel
theorem dX7_sitsOn_77 : decode cX7_sitsOn 77 = .ok (.iload_n 3, 1) := by decide +kernel
theorem dX7_sitsOn_78 : decode cX7_sitsOn 78 = .ok (.iload 4, 2) := by decide +kernel
theorem dX7_sitsOn_80 : decode cX7_sitsOn 80 = .ok (.iastore, 1) := by decide +kernel
theorem dX7_sitsOn_81 : decode cX7_sitsOn 81 = .ok (.aload_n 0, 1) := by decide +kernel
theorem dX7_sitsOn_82 : decode cX7_sitsOn 82 = .ok (.getfield 54, 3) := by decide +kernel
theorem dX7_sitsOn_85 : decode cX7_sitsOn 85 = .ok (.iload 5, 2) := by decide +kernel
theorem dX7_sitsOn_87 : decode cX7_sitsOn 87 = .ok (.iconst (-1), 1) := by decide +kernel
theorem dX7_sitsOn_88 : decode cX7_sitsOn 88 = .ok (.iastore, 1) := by decide +kernel
theorem dX7_sitsOn_89 : decode cX7_sitsOn 89 = .ok (.aload_n 0, 1) := by decide +kernel
theorem dX7_sitsOn_90 : decode cX7_sitsOn 90 = .ok (.getfield 47, 3) := by decide +kernel
theorem dX7_sitsOn_93 : decode cX7_sitsOn 93 = .ok (.iload_n 3, 1) := by decide +kernel
theorem dX7_sitsOn_94 : decode cX7_sitsOn 94 = .ok (.iload_n 1, 1) := by decide +kernel
theorem dX7_sitsOn_95 : decode cX7_sitsOn 95 = .ok (.iconst 1, 1) := by decide +kernel
theorem dX7_sitsOn_96 : decode cX7_sitsOn 96 = .ok (.if_icmp .eq 16, 3) := by decide +kernel
theorem dX7_sitsOn_99 : decode cX7_sitsOn 99 = .ok (.iload_n 2, 1) := by decide +kernel
theorem dX7_sitsOn_100 : decode cX7_sitsOn 100 = .ok (.iload_n 3, 1) := by decide +kernel
theorem dX7_sitsOn_101 : decode cX7_sitsOn 101 = .ok (.ishr, 1) := by decide +kernel
theorem dX7_sitsOn_102 : decode cX7_sitsOn 102 = .ok (.iconst 1, 1) := by decide +kernel
theorem dX7_sitsOn_103 : decode cX7_sitsOn 103 = .ok (.iand, 1) := by decide +kernel
theorem dX7_sitsOn_104 : decode cX7_sitsOn 104 = .ok (.iconst 1, 1) := by decide +kernel
theorem dX7_sitsOn_105 : decode cX7_sitsOn 105 = .ok (.if_icmp .ne 7, 3) := by decide +kernel
theorem dX7_sitsOn_108 : decode cX7_sitsOn 108 = .ok (.iconst 1, 1) := by decide +kernel
theorem dX7_sitsOn_109 : decode cX7_sitsOn 109 = .ok (.goto 4, 3) := by decide +kernel
theorem dX7_sitsOn_112 : decode cX7_sitsOn 112 = .ok (.iconst 0, 1) := by decide +kernel
theorem dX7_sitsOn_113 : decode cX7_sitsOn 113 = .ok (.bastore, 1) := by decide +kernel
theorem dX7_sitsOn_114 : decode cX7_sitsOn 114 = .ok (.aload_n 0, 1) := by decide +kernel
theorem dX7_sitsOn_115 : decode cX7_sitsOn 115 = .ok (.getfield 57, 3) := by decide +kernel
theorem dX7_sitsOn_118 : decode cX7_sitsOn 118 = .ok (.iload 5, 2) := by decide +kernel
theorem dX7_sitsOn_120 : decode cX7_sitsOn 120 = .ok (.aload_n 0, 1) := by decide +kernel
theorem dX7_sitsOn_121 : decode cX7_sitsOn 121 = .ok (.getfield 47, 3) := by decide +kernel
theorem dX7_sitsOn_124 : decode cX7_sitsOn 124 = .ok (.iload_n 3, 1) := by decide +kernel
theorem dX7_sitsOn_125 : decode cX7_sitsOn 125 = .ok (.baload, 1) := by decide +kernel
theorem dX7_sitsOn_126 : decode cX7_sitsOn 126 = .ok (.ifCond .eq 7, 3) := by decide +kernel
theorem dX7_sitsOn_129 : decode cX7_sitsOn 129 = .ok (.iload_n 3, 1) := by decide +kernel
theorem dX7_sitsOn_130 : decode cX7_sitsOn 130 = .ok (.goto 4, 3) := by decide +kernel
theorem dX7_sitsOn_133 : decode cX7_sitsOn 133 = .ok (.iconst (-1), 1) := by decide +kernel
theorem dX7_sitsOn_134 : decode cX7_sitsOn 134 = .ok (.iastore, 1) := by decide +kernel
theorem dX7_sitsOn_135 : decode cX7_sitsOn 135 = .ok (.return_, 1) := by decide +kernel
theorem dX7_minute_0 : decode cX7_minute 0 = .ok (.iconst 0, 1) := by decide +kernel
theorem dX7_minute_1 : decode cX7_minute 1 = .ok (.istore 6, 2) := by decide +kernel
theorem dX7_minute_3 : decode cX7_minute 3 = .ok (.iload 6, 2) := by decide +kernel
theorem dX7_minute_5 : decode cX7_minute 5 = .ok (.aload_n 0, 1) := by decide +kernel
theorem dX7_minute_6 : decode cX7_minute 6 = .ok (.getfield 17, 3) := by decide +kernel
theorem dX7_minute_9 : decode cX7_minute 9 = .ok (.iconst 0, 1) := by decide +kernel
theorem dX7_minute_10 : decode cX7_minute 10 = .ok (.iaload, 1) := by decide +kernel
theorem dX7_minute_11 : decode cX7_minute 11 = .ok (.if_icmp .ge 46, 3) := by decide +kernel
theorem dX7_minute_14 : decode cX7_minute 14 = .ok (.aload_n 0, 1) := by decide +kernel
theorem dX7_minute_15 : decode cX7_minute 15 = .ok (.getfield 32, 3) := by decide +kernel
theorem dX7_minute_18 : decode cX7_minute 18 = .ok (.iload 6, 2) := by decide +kernel
theorem dX7_minute_20 : decode cX7_minute 20 = .ok (.iaload, 1) := by decide +kernel
theorem dX7_minute_21 : decode cX7_minute 21 = .ok (.iconst 3, 1) := by decide +kernel
theorem dX7_minute_22 : decode cX7_minute 22 = .ok (.if_icmp .ne 29, 3) := by decide +kernel
theorem dX7_minute_25 : decode cX7_minute 25 = .ok (.iload_n 3, 1) := by decide +kernel
theorem dX7_minute_26 : decode cX7_minute 26 = .ok (.aload_n 0, 1) := by decide +kernel
theorem dX7_minute_27 : decode cX7_minute 27 = .ok (.getfield 44, 3) := by decide +kernel
theorem dX7_minute_30 : decode cX7_minute 30 = .ok (.iload 6, 2) := by decide +kernel
theorem dX7_minute_32 : decode cX7_minute 32 = .ok (.iaload, 1) := by decide +kernel
theorem dX7_minute_33 : decode cX7_minute 33 = .ok (.isub, 1) := by decide +kernel
theorem dX7_minute_34 : decode cX7_minute 34 = .ok (.aload_n 0, 1) := by decide +kernel
theorem dX7_minute_35 : decode cX7_minute 35 = .ok (.iload 6, 2) := by decide +kernel
theorem dX7_minute_37 : decode cX7_minute 37 = .ok (.iconst 3, 1) := by decide +kernel
theorem dX7_minute_38 : decode cX7_minute 38 = .ok (.invokevirtual 135, 3) := by decide +kernel
theorem dX7_minute_41 : decode cX7_minute 41 = .ok (.if_icmp .ne 10, 3) := by decide +kernel
theorem dX7_minute_44 : decode cX7_minute 44 = .ok (.aload_n 0, 1) := by decide +kernel
theorem dX7_minute_45 : decode cX7_minute 45 = .ok (.iload 6, 2) := by decide +kernel
theorem dX7_minute_47 : decode cX7_minute 47 = .ok (.iload_n 3, 1) := by decide +kernel
theorem dX7_minute_48 : decode cX7_minute 48 = .ok (.invokevirtual 152, 3) := by decide +kernel
theorem dX7_minute_51 : decode cX7_minute 51 = .ok (.iinc 6 1, 3) := by decide +kernel
theorem dX7_minute_54 : decode cX7_minute 54 = .ok (.goto (-51), 3) := by decide +kernel
theorem dX7_minute_57 : decode cX7_minute 57 = .ok (.aload_n 0, 1) := by decide +kernel
theorem dX7_minute_58 : decode cX7_minute 58 = .ok (.iload_n 1, 1) := by decide +kernel
theorem dX7_minute_59 : decode cX7_minute 59 = .ok (.iload_n 3, 1) := by decide +kernel
theorem dX7_minute_60 : decode cX7_minute 60 = .ok (.iload 4, 2) := by decide +kernel
theorem dX7_minute_62 : decode cX7_minute 62 = .ok (.iload 5, 2) := by decide +kernel
theorem dX7_minute_64 : decode cX7_minute 64 = .ok (.invokevirtual 156, 3) := by decide +kernel
theorem dX7_minute_67 : decode cX7_minute 67 = .ok (.iconst 0, 1) := by decide +kernel
theorem dX7_minute_68 : decode cX7_minute 68 = .ok (.istore 6, 2) := by decide +kernel
theorem dX7_minute_70 : decode cX7_minute 70 = .ok (.iload 6, 2) := by decide +kernel
theorem dX7_minute_72 : decode cX7_minute 72 = .ok (.aload_n 0, 1) := by decide +kernel
theorem dX7_minute_73 : decode cX7_minute 73 = .ok (.getfield 17, 3) := by decide +kernel
theorem dX7_minute_76 : decode cX7_minute 76 = .ok (.iconst 0, 1) := by decide +kernel
theorem dX7_minute_77 : decode cX7_minute 77 = .ok (.iaload, 1) := by decide +kernel
theorem dX7_minute_78 : decode cX7_minute 78 = .ok (.if_icmp .ge 54, 3) := by decide +kernel
theorem dX7_minute_81 : decode cX7_minute 81 = .ok (.aload_n 0, 1) := by decide +kernel
theorem dX7_minute_82 : decode cX7_minute 82 = .ok (.getfield 32, 3) := by decide +kernel
theorem dX7_minute_85 : decode cX7_minute 85 = .ok (.iload 6, 2) := by decide +kernel
theorem dX7_minute_87 : decode cX7_minute 87 = .ok (.iaload, 1) := by decide +kernel
theorem dX7_minute_88 : decode cX7_minute 88 = .ok (.ifCond .ne 38, 3) := by decide +kernel
theorem dX7_minute_91 : decode cX7_minute 91 = .ok (.aload_n 0, 1) := by decide +kernel
theorem dX7_minute_92 : decode cX7_minute 92 = .ok (.iload 6, 2) := by decide +kernel
theorem dX7_minute_94 : decode cX7_minute 94 = .ok (.iconst 0, 1) := by decide +kernel
theorem dX7_minute_95 : decode cX7_minute 95 = .ok (.invokevirtual 135, 3) := by decide +kernel
theorem dX7_minute_98 : decode cX7_minute 98 = .ok (.aload_n 0, 1) := by decide +kernel
theorem dX7_minute_99 : decode cX7_minute 99 = .ok (.getfield 51, 3) := by decide +kernel
theorem dX7_minute_102 : decode cX7_minute 102 = .ok (.iload 6, 2) := by decide +kernel
theorem dX7_minute_104 : decode cX7_minute 104 = .ok (.iaload, 1) := by decide +kernel
theorem dX7_minute_105 : decode cX7_minute 105 = .ok (.iadd, 1) := by decide +kernel
theorem dX7_minute_106 : decode cX7_minute 106 = .ok (.iload_n 3, 1) := by decide +kernel
theorem dX7_minute_107 : decode cX7_minute 107 = .ok (.if_icmp .ne 19, 3) := by decide +kernel
theorem dX7_minute_110 : decode cX7_minute 110 = .ok (.aload_n 0, 1) := by decide +kernel
theorem dX7_minute_111 : decode cX7_minute 111 = .ok (.getfield 32, 3) := by decide +kernel
theorem dX7_minute_114 : decode cX7_minute 114 = .ok (.iload 6, 2) := by decide +kernel
theorem dX7_minute_116 : decode cX7_minute 116 = .ok (.iconst 1, 1) := by decide +kernel
theorem dX7_minute_117 : decode cX7_minute 117 = .ok (.iastore, 1) := by decide +kernel
theorem dX7_minute_118 : decode cX7_minute 118 = .ok (.aload_n 0, 1) := by decide +kernel
theorem dX7_minute_119 : decode cX7_minute 119 = .ok (.getfield 41, 3) := by decide +kernel
theorem dX7_minute_122 : decode cX7_minute 122 = .ok (.iload 6, 2) := by decide +kernel
theorem dX7_minute_124 : decode cX7_minute 124 = .ok (.iload_n 3, 1) := by decide +kernel
theorem dX7_minute_125 : decode cX7_minute 125 = .ok (.iastore, 1) := by decide +kernel
theorem dX7_minute_126 : decode cX7_minute 126 = .ok (.iinc 6 1, 3) := by decide +kernel
theorem dX7_minute_129 : decode cX7_minute 129 = .ok (.goto (-59), 3) := by decide +kernel
theorem dX7_minute_132 : decode cX7_minute 132 = .ok (.iconst 0, 1) := by decide +kernel
theorem dX7_minute_133 : decode cX7_minute 133 = .ok (.istore 6, 2) := by decide +kernel
theorem dX7_minute_135 : decode cX7_minute 135 = .ok (.iload 6, 2) := by decide +kernel
theorem dX7_minute_137 : decode cX7_minute 137 = .ok (.aload_n 0, 1) := by decide +kernel
theorem dX7_minute_138 : decode cX7_minute 138 = .ok (.getfield 17, 3) := by decide +kernel
theorem dX7_minute_141 : decode cX7_minute 141 = .ok (.iconst 0, 1) := by decide +kernel
theorem dX7_minute_142 : decode cX7_minute 142 = .ok (.iaload, 1) := by decide +kernel
theorem dX7_minute_143 : decode cX7_minute 143 = .ok (.if_icmp .ge 28, 3) := by decide +kernel
theorem dX7_minute_146 : decode cX7_minute 146 = .ok (.aload_n 0, 1) := by decide +kernel
theorem dX7_minute_147 : decode cX7_minute 147 = .ok (.getfield 32, 3) := by decide +kernel
theorem dX7_minute_150 : decode cX7_minute 150 = .ok (.iload 6, 2) := by decide +kernel
theorem dX7_minute_152 : decode cX7_minute 152 = .ok (.iaload, 1) := by decide +kernel
theorem dX7_minute_153 : decode cX7_minute 153 = .ok (.iconst 1, 1) := by decide +kernel
theorem dX7_minute_154 : decode cX7_minute 154 = .ok (.if_icmp .ne 11, 3) := by decide +kernel
theorem dX7_minute_157 : decode cX7_minute 157 = .ok (.aload_n 0, 1) := by decide +kernel
theorem dX7_minute_158 : decode cX7_minute 158 = .ok (.iload_n 1, 1) := by decide +kernel
theorem dX7_minute_159 : decode cX7_minute 159 = .ok (.iload 6, 2) := by decide +kernel
theorem dX7_minute_161 : decode cX7_minute 161 = .ok (.iload_n 3, 1) := by decide +kernel
theorem dX7_minute_162 : decode cX7_minute 162 = .ok (.invokevirtual 160, 3) := by decide +kernel
theorem dX7_minute_165 : decode cX7_minute 165 = .ok (.iinc 6 1, 3) := by decide +kernel
theorem dX7_minute_168 : decode cX7_minute 168 = .ok (.goto (-33), 3) := by decide +kernel
theorem dX7_minute_171 : decode cX7_minute 171 = .ok (.iconst 0, 1) := by decide +kernel
theorem dX7_minute_172 : decode cX7_minute 172 = .ok (.istore 6, 2) := by decide +kernel
theorem dX7_minute_174 : decode cX7_minute 174 = .ok (.iload 6, 2) := by decide +kernel
theorem dX7_minute_176 : decode cX7_minute 176 = .ok (.aload_n 0, 1) := by decide +kernel
theorem dX7_minute_177 : decode cX7_minute 177 = .ok (.getfield 17, 3) := by decide +kernel
theorem dX7_minute_180 : decode cX7_minute 180 = .ok (.iconst 0, 1) := by decide +kernel
theorem dX7_minute_181 : decode cX7_minute 181 = .ok (.iaload, 1) := by decide +kernel
theorem dX7_minute_182 : decode cX7_minute 182 = .ok (.if_icmp .ge 29, 3) := by decide +kernel
theorem dX7_minute_185 : decode cX7_minute 185 = .ok (.aload_n 0, 1) := by decide +kernel
theorem dX7_minute_186 : decode cX7_minute 186 = .ok (.getfield 32, 3) := by decide +kernel
theorem dX7_minute_189 : decode cX7_minute 189 = .ok (.iload 6, 2) := by decide +kernel
theorem dX7_minute_191 : decode cX7_minute 191 = .ok (.iaload, 1) := by decide +kernel
theorem dX7_minute_192 : decode cX7_minute 192 = .ok (.iconst 2, 1) := by decide +kernel
theorem dX7_minute_193 : decode cX7_minute 193 = .ok (.if_icmp .ne 12, 3) := by decide +kernel
theorem dX7_minute_196 : decode cX7_minute 196 = .ok (.aload_n 0, 1) := by decide +kernel
theorem dX7_minute_197 : decode cX7_minute 197 = .ok (.iload_n 1, 1) := by decide +kernel
theorem dX7_minute_198 : decode cX7_minute 198 = .ok (.iload_n 2, 1) := by decide +kernel
theorem dX7_minute_199 : decode cX7_minute 199 = .ok (.iload 6, 2) := by decide +kernel
theorem dX7_minute_201 : decode cX7_minute 201 = .ok (.iload_n 3, 1) := by decide +kernel
theorem dX7_minute_202 : decode cX7_minute 202 = .ok (.invokevirtual 164, 3) := by decide +kernel
theorem dX7_minute_205 : decode cX7_minute 205 = .ok (.iinc 6 1, 3) := by decide +kernel
theorem dX7_minute_208 : decode cX7_minute 208 = .ok (.goto (-34), 3) := by decide +kernel
theorem dX7_minute_211 : decode cX7_minute 211 = .ok (.iconst 0, 1) := by decide +kernel
theorem dX7_minute_212 : decode cX7_minute 212 = .ok (.istore 6, 2) := by decide +kernel
theorem dX7_minute_214 : decode cX7_minute 214 = .ok (.iconst 0, 1) := by decide +kernel
theorem dX7_minute_215 : decode cX7_minute 215 = .ok (.istore 7, 2) := by decide +kernel
theorem dX7_minute_217 : decode cX7_minute 217 = .ok (.iload 7, 2) := by decide +kernel
theorem dX7_minute_219 : decode cX7_minute 219 = .ok (.aload_n 0, 1) := by decide +kernel
theorem dX7_minute_220 : decode cX7_minute 220 = .ok (.getfield 13, 3) := by decide +kernel
theorem dX7_minute_223 : decode cX7_minute 223 = .ok (.iconst 0, 1) := by decide +kernel
theorem dX7_minute_224 : decode cX7_minute 224 = .ok (.iaload, 1) := by decide +kernel
theorem dX7_minute_225 : decode cX7_minute 225 = .ok (.if_icmp .ge 53, 3) := by decide +kernel
theorem dX7_minute_228 : decode cX7_minute 228 = .ok (.iload 6, 2) := by decide +kernel
theorem dX7_minute_230 : decode cX7_minute 230 = .ok (.aload_n 0, 1) := by decide +kernel
theorem dX7_minute_231 : decode cX7_minute 231 = .ok (.getfield 54, 3) := by decide +kernel
theorem dX7_minute_234 : decode cX7_minute 234 = .ok (.iload 7, 2) := by decide +kernel
theorem dX7_minute_236 : decode cX7_minute 236 = .ok (.iaload, 1) := by decide +kernel
theorem dX7_minute_237 : decode cX7_minute 237 = .ok (.ifCond .lt 7, 3) := by decide +kernel
theorem dX7_minute_240 : decode cX7_minute 240 = .ok (.iconst 1, 1) := by decide +kernel
theorem dX7_minute_241 : decode cX7_minute 241 = .ok (.goto 4, 3) := by decide +kernel
theorem dX7_minute_244 : decode cX7_minute 244 = .ok (.iconst 0, 1) := by decide +kernel
theorem dX7_minute_245 : decode cX7_minute 245 = .ok (.iadd, 1) := by decide +kernel
theorem dX7_minute_246 : decode cX7_minute 246 = .ok (.istore 6, 2) := by decide +kernel
theorem dX7_minute_248 : decode cX7_minute 248 = .ok (.aload_n 0, 1) := by decide +kernel
theorem dX7_minute_249 : decode cX7_minute 249 = .ok (.dup, 1) := by decide +kernel
theorem dX7_minute_250 : decode cX7_minute 250 = .ok (.getfield 167, 3) := by decide +kernel
theorem dX7_minute_253 : decode cX7_minute 253 = .ok (.aload_n 0, 1) := by decide +kernel
theorem dX7_minute_254 : decode cX7_minute 254 = .ok (.getfield 57, 3) := by decide +kernel
theorem dX7_minute_257 : decode cX7_minute 257 = .ok (.iload 7, 2) := by decide +kernel
theorem dX7_minute_259 : decode cX7_minute 259 = .ok (.iaload, 1) := by decide +kernel
theorem dX7_minute_260 : decode cX7_minute 260 = .ok (.ifCond .lt 7, 3) := by decide +kernel
theorem dX7_minute_263 : decode cX7_minute 263 = .ok (.iconst 1, 1) := by decide +kernel
theorem dX7_minute_264 : decode cX7_minute 264 = .ok (.goto 4, 3) := by decide +kernel
theorem dX7_minute_267 : decode cX7_minute 267 = .ok (.iconst 0, 1) := by decide +kernel
theorem dX7_minute_268 : decode cX7_minute 268 = .ok (.iadd, 1) := by decide +kernel
theorem dX7_minute_269 : decode cX7_minute 269 = .ok (.putfield 167, 3) := by decide +kernel
theorem dX7_minute_272 : decode cX7_minute 272 = .ok (.iinc 7 1, 3) := by decide +kernel
theorem dX7_minute_275 : decode cX7_minute 275 = .ok (.goto (-58), 3) := by decide +kernel
theorem dX7_minute_278 : decode cX7_minute 278 = .ok (.aload_n 0, 1) := by decide +kernel
theorem dX7_minute_279 : decode cX7_minute 279 = .ok (.getfield 60, 3) := by decide +kernel
theorem dX7_minute_282 : decode cX7_minute 282 = .ok (.iload_n 3, 1) := by decide +kernel
theorem dX7_minute_283 : decode cX7_minute 283 = .ok (.iload 6, 2) := by decide +kernel
theorem dX7_minute_285 : decode cX7_minute 285 = .ok (.iastore, 1) := by decide +kernel
theorem dX7_minute_286 : decode cX7_minute 286 = .ok (.aload_n 0, 1) := by decide +kernel
theorem dX7_minute_287 : decode cX7_minute 287 = .ok (.dup, 1) := by decide +kernel
theorem dX7_minute_288 : decode cX7_minute 288 = .ok (.getfield 170, 3) := by decide +kernel
theorem dX7_minute_291 : decode cX7_minute 291 = .ok (.iload 6, 2) := by decide +kernel
theorem dX7_minute_293 : decode cX7_minute 293 = .ok (.iadd, 1) := by decide +kernel
theorem dX7_minute_294 : decode cX7_minute 294 = .ok (.putfield 170, 3) := by decide +kernel
theorem dX7_minute_297 : decode cX7_minute 297 = .ok (.return_, 1) := by decide +kernel
theorem dX7_goes_0 : decode cX7_goes 0 = .ok (.iconst 0, 1) := by decide +kernel
theorem dX7_goes_1 : decode cX7_goes 1 = .ok (.istore 6, 2) := by decide +kernel
theorem dX7_goes_3 : decode cX7_goes 3 = .ok (.iload 6, 2) := by decide +kernel
theorem dX7_goes_5 : decode cX7_goes 5 = .ok (.bipush 8, 2) := by decide +kernel
theorem dX7_goes_7 : decode cX7_goes 7 = .ok (.if_icmp .ge 17, 3) := by decide +kernel
theorem dX7_goes_10 : decode cX7_goes 10 = .ok (.aload_n 0, 1) := by decide +kernel
theorem dX7_goes_11 : decode cX7_goes 11 = .ok (.getfield 51, 3) := by decide +kernel
theorem dX7_goes_14 : decode cX7_goes 14 = .ok (.iload 6, 2) := by decide +kernel
theorem dX7_goes_16 : decode cX7_goes 16 = .ok (.iconst 0, 1) := by decide +kernel
theorem dX7_goes_17 : decode cX7_goes 17 = .ok (.iastore, 1) := by decide +kernel
theorem dX7_goes_18 : decode cX7_goes 18 = .ok (.iinc 6 1, 3) := by decide +kernel
theorem dX7_goes_21 : decode cX7_goes 21 = .ok (.goto (-18), 3) := by decide +kernel
theorem dX7_goes_24 : decode cX7_goes 24 = .ok (.aload_n 0, 1) := by decide +kernel
theorem dX7_goes_25 : decode cX7_goes 25 = .ok (.iload_n 1, 1) := by decide +kernel
theorem dX7_goes_26 : decode cX7_goes 26 = .ok (.iload_n 2, 1) := by decide +kernel
theorem dX7_goes_27 : decode cX7_goes 27 = .ok (.iload_n 3, 1) := by decide +kernel
theorem dX7_goes_28 : decode cX7_goes 28 = .ok (.iload 4, 2) := by decide +kernel
theorem dX7_goes_30 : decode cX7_goes 30 = .ok (.iload 5, 2) := by decide +kernel
theorem dX7_goes_32 : decode cX7_goes 32 = .ok (.invokevirtual 173, 3) := by decide +kernel
theorem dX7_goes_35 : decode cX7_goes 35 = .ok (.return_, 1) := by decide +kernel
theorem dX7_run_0 : decode cX7_run 0 = .ok (.iconst 0, 1) := by decide +kernel
theorem dX7_run_1 : decode cX7_run 1 = .ok (.istore 6, 2) := by decide +kernel
theorem dX7_run_3 : decode cX7_run 3 = .ok (.iload 6, 2) := by decide +kernel
theorem dX7_run_5 : decode cX7_run 5 = .ok (.bipush 8, 2) := by decide +kernel
theorem dX7_run_7 : decode cX7_run 7 = .ok (.if_icmp .ge 33, 3) := by decide +kernel
theorem dX7_run_10 : decode cX7_run 10 = .ok (.aload_n 0, 1) := by decide +kernel
theorem dX7_run_11 : decode cX7_run 11 = .ok (.getfield 32, 3) := by decide +kernel
theorem dX7_run_14 : decode cX7_run 14 = .ok (.iload 6, 2) := by decide +kernel
theorem dX7_run_16 : decode cX7_run 16 = .ok (.iconst 0, 1) := by decide +kernel
theorem dX7_run_17 : decode cX7_run 17 = .ok (.iastore, 1) := by decide +kernel
theorem dX7_run_18 : decode cX7_run 18 = .ok (.aload_n 0, 1) := by decide +kernel
theorem dX7_run_19 : decode cX7_run 19 = .ok (.getfield 38, 3) := by decide +kernel
theorem dX7_run_22 : decode cX7_run 22 = .ok (.iload 6, 2) := by decide +kernel
theorem dX7_run_24 : decode cX7_run 24 = .ok (.iconst 0, 1) := by decide +kernel
theorem dX7_run_25 : decode cX7_run 25 = .ok (.iastore, 1) := by decide +kernel
theorem dX7_run_26 : decode cX7_run 26 = .ok (.aload_n 0, 1) := by decide +kernel
theorem dX7_run_27 : decode cX7_run 27 = .ok (.getfield 47, 3) := by decide +kernel
theorem dX7_run_30 : decode cX7_run 30 = .ok (.iload 6, 2) := by decide +kernel
theorem dX7_run_32 : decode cX7_run 32 = .ok (.iconst 0, 1) := by decide +kernel
theorem dX7_run_33 : decode cX7_run 33 = .ok (.bastore, 1) := by decide +kernel
theorem dX7_run_34 : decode cX7_run 34 = .ok (.iinc 6 1, 3) := by decide +kernel
theorem dX7_run_37 : decode cX7_run 37 = .ok (.goto (-34), 3) := by decide +kernel
theorem dX7_run_40 : decode cX7_run 40 = .ok (.iconst 0, 1) := by decide +kernel
theorem dX7_run_41 : decode cX7_run 41 = .ok (.istore 6, 2) := by decide +kernel
theorem dX7_run_43 : decode cX7_run 43 = .ok (.iload 6, 2) := by decide +kernel
theorem dX7_run_45 : decode cX7_run 45 = .ok (.bipush 10, 2) := by decide +kernel
theorem dX7_run_47 : decode cX7_run 47 = .ok (.if_icmp .ge 25, 3) := by decide +kernel
theorem dX7_run_50 : decode cX7_run 50 = .ok (.aload_n 0, 1) := by decide +kernel
theorem dX7_run_51 : decode cX7_run 51 = .ok (.getfield 54, 3) := by decide +kernel
theorem dX7_run_54 : decode cX7_run 54 = .ok (.iload 6, 2) := by decide +kernel
theorem dX7_run_56 : decode cX7_run 56 = .ok (.iconst (-1), 1) := by decide +kernel
theorem dX7_run_57 : decode cX7_run 57 = .ok (.iastore, 1) := by decide +kernel
theorem dX7_run_58 : decode cX7_run 58 = .ok (.aload_n 0, 1) := by decide +kernel
theorem dX7_run_59 : decode cX7_run 59 = .ok (.getfield 57, 3) := by decide +kernel
theorem dX7_run_62 : decode cX7_run 62 = .ok (.iload 6, 2) := by decide +kernel
theorem dX7_run_64 : decode cX7_run 64 = .ok (.iconst (-1), 1) := by decide +kernel
theorem dX7_run_65 : decode cX7_run 65 = .ok (.iastore, 1) := by decide +kernel
theorem dX7_run_66 : decode cX7_run 66 = .ok (.iinc 6 1, 3) := by decide +kernel
theorem dX7_run_69 : decode cX7_run 69 = .ok (.goto (-26), 3) := by decide +kernel
theorem dX7_run_72 : decode cX7_run 72 = .ok (.aload_n 0, 1) := by decide +kernel
theorem dX7_run_73 : decode cX7_run 73 = .ok (.iconst 0, 1) := by decide +kernel
theorem dX7_run_74 : decode cX7_run 74 = .ok (.putfield 170, 3) := by decide +kernel
theorem dX7_run_77 : decode cX7_run 77 = .ok (.aload_n 0, 1) := by decide +kernel
theorem dX7_run_78 : decode cX7_run 78 = .ok (.iconst 0, 1) := by decide +kernel
theorem dX7_run_79 : decode cX7_run 79 = .ok (.putfield 167, 3) := by decide +kernel
theorem dX7_run_82 : decode cX7_run 82 = .ok (.aload_n 0, 1) := by decide +kernel
theorem dX7_run_83 : decode cX7_run 83 = .ok (.iconst 0, 1) := by decide +kernel
theorem dX7_run_84 : decode cX7_run 84 = .ok (.putfield 149, 3) := by decide +kernel
theorem dX7_run_87 : decode cX7_run 87 = .ok (.aload_n 0, 1) := by decide +kernel
theorem dX7_run_88 : decode cX7_run 88 = .ok (.iconst 0, 1) := by decide +kernel
theorem dX7_run_89 : decode cX7_run 89 = .ok (.putfield 139, 3) := by decide +kernel
theorem dX7_run_92 : decode cX7_run 92 = .ok (.iconst 0, 1) := by decide +kernel
theorem dX7_run_93 : decode cX7_run 93 = .ok (.istore 6, 2) := by decide +kernel
theorem dX7_run_95 : decode cX7_run 95 = .ok (.iload 6, 2) := by decide +kernel
theorem dX7_run_97 : decode cX7_run 97 = .ok (.iload_n 3, 1) := by decide +kernel
theorem dX7_run_98 : decode cX7_run 98 = .ok (.if_icmp .gt 21, 3) := by decide +kernel
theorem dX7_run_101 : decode cX7_run 101 = .ok (.aload_n 0, 1) := by decide +kernel
theorem dX7_run_102 : decode cX7_run 102 = .ok (.iload_n 1, 1) := by decide +kernel
theorem dX7_run_103 : decode cX7_run 103 = .ok (.iload_n 2, 1) := by decide +kernel
theorem dX7_run_104 : decode cX7_run 104 = .ok (.iload 6, 2) := by decide +kernel
theorem dX7_run_106 : decode cX7_run 106 = .ok (.iload 4, 2) := by decide +kernel
theorem dX7_run_108 : decode cX7_run 108 = .ok (.iload 5, 2) := by decide +kernel
theorem dX7_run_110 : decode cX7_run 110 = .ok (.invokevirtual 177, 3) := by decide +kernel
theorem dX7_run_113 : decode cX7_run 113 = .ok (.iinc 6 1, 3) := by decide +kernel
theorem dX7_run_116 : decode cX7_run 116 = .ok (.goto (-21), 3) := by decide +kernel
theorem dX7_run_119 : decode cX7_run 119 = .ok (.return_, 1) := by decide +kernel
theorem dX7_whole_0 : decode cX7_whole 0 = .ok (.aload_n 0, 1) := by decide +kernel
theorem dX7_whole_1 : decode cX7_whole 1 = .ok (.iload_n 1, 1) := by decide +kernel
theorem dX7_whole_2 : decode cX7_whole 2 = .ok (.aload_n 0, 1) := by decide +kernel
theorem dX7_whole_3 : decode cX7_whole 3 = .ok (.getfield 113, 3) := by decide +kernel
theorem dX7_whole_6 : decode cX7_whole 6 = .ok (.sipush 399, 3) := by decide +kernel
theorem dX7_whole_9 : decode cX7_whole 9 = .ok (.aload_n 0, 1) := by decide +kernel
theorem dX7_whole_10 : decode cX7_whole 10 = .ok (.getfield 26, 3) := by decide +kernel
theorem dX7_whole_13 : decode cX7_whole 13 = .ok (.iconst 0, 1) := by decide +kernel
theorem dX7_whole_14 : decode cX7_whole 14 = .ok (.iaload, 1) := by decide +kernel
theorem dX7_whole_15 : decode cX7_whole 15 = .ok (.aload_n 0, 1) := by decide +kernel
theorem dX7_whole_16 : decode cX7_whole 16 = .ok (.getfield 26, 3) := by decide +kernel
theorem dX7_whole_19 : decode cX7_whole 19 = .ok (.iconst 1, 1) := by decide +kernel
theorem dX7_whole_20 : decode cX7_whole 20 = .ok (.iaload, 1) := by decide +kernel
theorem dX7_whole_21 : decode cX7_whole 21 = .ok (.invokevirtual 180, 3) := by decide +kernel
theorem dX7_whole_24 : decode cX7_whole 24 = .ok (.return_, 1) := by decide +kernel
theorem dX7_seat_0 : decode cX7_seat 0 = .ok (.iload_n 1, 1) := by decide +kernel
theorem dX7_seat_1 : decode cX7_seat 1 = .ok (.invokestatic 183, 3) := by decide +kernel
theorem dX7_seat_4 : decode cX7_seat 4 = .ok (.ifCond .eq 39, 3) := by decide +kernel
theorem dX7_seat_7 : decode cX7_seat 7 = .ok (.iload_n 2, 1) := by decide +kernel
theorem dX7_seat_8 : decode cX7_seat 8 = .ok (.invokestatic 186, 3) := by decide +kernel
theorem dX7_seat_11 : decode cX7_seat 11 = .ok (.ifCond .eq 32, 3) := by decide +kernel
theorem dX7_seat_14 : decode cX7_seat 14 = .ok (.iload_n 3, 1) := by decide +kernel
theorem dX7_seat_15 : decode cX7_seat 15 = .ok (.i2l, 1) := by decide +kernel
theorem dX7_seat_16 : decode cX7_seat 16 = .ok (.lconst 0, 1) := by decide +kernel
theorem dX7_seat_17 : decode cX7_seat 17 = .ok (.aload_n 0, 1) := by decide +kernel
theorem dX7_seat_18 : decode cX7_seat 18 = .ok (.getfield 13, 3) := by decide +kernel
theorem dX7_seat_21 : decode cX7_seat 21 = .ok (.iconst 0, 1) := by decide +kernel
theorem dX7_seat_22 : decode cX7_seat 22 = .ok (.iaload, 1) := by decide +kernel
theorem dX7_seat_23 : decode cX7_seat 23 = .ok (.iconst 1, 1) := by decide +kernel
theorem dX7_seat_24 : decode cX7_seat 24 = .ok (.isub, 1) := by decide +kernel
theorem dX7_seat_25 : decode cX7_seat 25 = .ok (.i2l, 1) := by decide +kernel
theorem dX7_seat_26 : decode cX7_seat 26 = .ok (.invokestatic 80, 3) := by decide +kernel
theorem dX7_seat_29 : decode cX7_seat 29 = .ok (.ifCond .eq 14, 3) := by decide +kernel
theorem dX7_seat_32 : decode cX7_seat 32 = .ok (.iload 4, 2) := by decide +kernel
theorem dX7_seat_34 : decode cX7_seat 34 = .ok (.i2l, 1) := by decide +kernel
theorem dX7_seat_35 : decode cX7_seat 35 = .ok (.lconst 0, 1) := by decide +kernel
theorem dX7_seat_36 : decode cX7_seat 36 = .ok (.lconst 1, 1) := by decide +kernel
theorem dX7_seat_37 : decode cX7_seat 37 = .ok (.invokestatic 80, 3) := by decide +kernel
theorem dX7_seat_40 : decode cX7_seat 40 = .ok (.ifCond .ne 5, 3) := by decide +kernel
theorem dX7_seat_43 : decode cX7_seat 43 = .ok (.iconst (-1), 1) := by decide +kernel
theorem dX7_seat_44 : decode cX7_seat 44 = .ok (.ireturn, 1) := by decide +kernel
theorem dX7_seat_45 : decode cX7_seat 45 = .ok (.aload_n 0, 1) := by decide +kernel
theorem dX7_seat_46 : decode cX7_seat 46 = .ok (.iload_n 1, 1) := by decide +kernel
theorem dX7_seat_47 : decode cX7_seat 47 = .ok (.aload_n 0, 1) := by decide +kernel
theorem dX7_seat_48 : decode cX7_seat 48 = .ok (.getfield 113, 3) := by decide +kernel
theorem dX7_seat_51 : decode cX7_seat 51 = .ok (.iload_n 2, 1) := by decide +kernel
theorem dX7_seat_52 : decode cX7_seat 52 = .ok (.aload_n 0, 1) := by decide +kernel
theorem dX7_seat_53 : decode cX7_seat 53 = .ok (.getfield 26, 3) := by decide +kernel
theorem dX7_seat_56 : decode cX7_seat 56 = .ok (.iconst 0, 1) := by decide +kernel
theorem dX7_seat_57 : decode cX7_seat 57 = .ok (.iaload, 1) := by decide +kernel
theorem dX7_seat_58 : decode cX7_seat 58 = .ok (.aload_n 0, 1) := by decide +kernel
theorem dX7_seat_59 : decode cX7_seat 59 = .ok (.getfield 26, 3) := by decide +kernel
theorem dX7_seat_62 : decode cX7_seat 62 = .ok (.iconst 1, 1) := by decide +kernel
theorem dX7_seat_63 : decode cX7_seat 63 = .ok (.iaload, 1) := by decide +kernel
theorem dX7_seat_64 : decode cX7_seat 64 = .ok (.invokevirtual 180, 3) := by decide +kernel
theorem dX7_seat_67 : decode cX7_seat 67 = .ok (.iload 4, 2) := by decide +kernel
theorem dX7_seat_69 : decode cX7_seat 69 = .ok (.ifCond .ne 12, 3) := by decide +kernel
theorem dX7_seat_72 : decode cX7_seat 72 = .ok (.aload_n 0, 1) := by decide +kernel
theorem dX7_seat_73 : decode cX7_seat 73 = .ok (.getfield 54, 3) := by decide +kernel
theorem dX7_seat_76 : decode cX7_seat 76 = .ok (.iload_n 3, 1) := by decide +kernel
theorem dX7_seat_77 : decode cX7_seat 77 = .ok (.iaload, 1) := by decide +kernel
theorem dX7_seat_78 : decode cX7_seat 78 = .ok (.goto 9, 3) := by decide +kernel
theorem dX7_seat_81 : decode cX7_seat 81 = .ok (.aload_n 0, 1) := by decide +kernel
theorem dX7_seat_82 : decode cX7_seat 82 = .ok (.getfield 57, 3) := by decide +kernel
theorem dX7_seat_85 : decode cX7_seat 85 = .ok (.iload_n 3, 1) := by decide +kernel
theorem dX7_seat_86 : decode cX7_seat 86 = .ok (.iaload, 1) := by decide +kernel
theorem dX7_seat_87 : decode cX7_seat 87 = .ok (.istore 5, 2) := by decide +kernel
theorem dX7_seat_89 : decode cX7_seat 89 = .ok (.iload 5, 2) := by decide +kernel
theorem dX7_seat_91 : decode cX7_seat 91 = .ok (.ifCond .ge 8, 3) := by decide +kernel
theorem dX7_seat_94 : decode cX7_seat 94 = .ok (.bipush (-4), 2) := by decide +kernel
theorem dX7_seat_96 : decode cX7_seat 96 = .ok (.goto 5, 3) := by decide +kernel
theorem dX7_seat_99 : decode cX7_seat 99 = .ok (.iload 5, 2) := by decide +kernel
theorem dX7_seat_101 : decode cX7_seat 101 = .ok (.ireturn, 1) := by decide +kernel
theorem dX7_does_0 : decode cX7_does 0 = .ok (.iload_n 1, 1) := by decide +kernel
theorem dX7_does_1 : decode cX7_does 1 = .ok (.invokestatic 183, 3) := by decide +kernel
theorem dX7_does_4 : decode cX7_does 4 = .ok (.ifCond .eq 18, 3) := by decide +kernel
theorem dX7_does_7 : decode cX7_does 7 = .ok (.iload_n 2, 1) := by decide +kernel
theorem dX7_does_8 : decode cX7_does 8 = .ok (.invokestatic 186, 3) := by decide +kernel
theorem dX7_does_11 : decode cX7_does 11 = .ok (.ifCond .eq 11, 3) := by decide +kernel
theorem dX7_does_14 : decode cX7_does 14 = .ok (.aload_n 0, 1) := by decide +kernel
theorem dX7_does_15 : decode cX7_does 15 = .ok (.iload_n 3, 1) := by decide +kernel
theorem dX7_does_16 : decode cX7_does 16 = .ok (.invokevirtual 130, 3) := by decide +kernel
theorem dX7_does_19 : decode cX7_does 19 = .ok (.ifCond .ne 5, 3) := by decide +kernel
theorem dX7_does_22 : decode cX7_does 22 = .ok (.iconst (-1), 1) := by decide +kernel
theorem dX7_does_23 : decode cX7_does 23 = .ok (.ireturn, 1) := by decide +kernel
theorem dX7_does_24 : decode cX7_does 24 = .ok (.aload_n 0, 1) := by decide +kernel
theorem dX7_does_25 : decode cX7_does 25 = .ok (.iload_n 1, 1) := by decide +kernel
theorem dX7_does_26 : decode cX7_does 26 = .ok (.aload_n 0, 1) := by decide +kernel
theorem dX7_does_27 : decode cX7_does 27 = .ok (.getfield 113, 3) := by decide +kernel
theorem dX7_does_30 : decode cX7_does 30 = .ok (.iload_n 2, 1) := by decide +kernel
theorem dX7_does_31 : decode cX7_does 31 = .ok (.aload_n 0, 1) := by decide +kernel
theorem dX7_does_32 : decode cX7_does 32 = .ok (.getfield 26, 3) := by decide +kernel
theorem dX7_does_35 : decode cX7_does 35 = .ok (.iconst 0, 1) := by decide +kernel
theorem dX7_does_36 : decode cX7_does 36 = .ok (.iaload, 1) := by decide +kernel
theorem dX7_does_37 : decode cX7_does 37 = .ok (.aload_n 0, 1) := by decide +kernel
theorem dX7_does_38 : decode cX7_does 38 = .ok (.getfield 26, 3) := by decide +kernel
theorem dX7_does_41 : decode cX7_does 41 = .ok (.iconst 1, 1) := by decide +kernel
theorem dX7_does_42 : decode cX7_does 42 = .ok (.iaload, 1) := by decide +kernel
theorem dX7_does_43 : decode cX7_does 43 = .ok (.invokevirtual 180, 3) := by decide +kernel
theorem dX7_does_46 : decode cX7_does 46 = .ok (.aload_n 0, 1) := by decide +kernel
theorem dX7_does_47 : decode cX7_does 47 = .ok (.getfield 32, 3) := by decide +kernel
theorem dX7_does_50 : decode cX7_does 50 = .ok (.iload_n 3, 1) := by decide +kernel
theorem dX7_does_51 : decode cX7_does 51 = .ok (.iaload, 1) := by decide +kernel
theorem dX7_does_52 : decode cX7_does 52 = .ok (.ireturn, 1) := by decide +kernel
theorem dX7_many_0 : decode cX7_many 0 = .ok (.iconst 0, 1) := by decide +kernel
theorem dX7_many_1 : decode cX7_many 1 = .ok (.istore_n 1, 1) := by decide +kernel
theorem dX7_many_2 : decode cX7_many 2 = .ok (.iconst 0, 1) := by decide +kernel
theorem dX7_many_3 : decode cX7_many 3 = .ok (.istore_n 2, 1) := by decide +kernel
theorem dX7_many_4 : decode cX7_many 4 = .ok (.iload_n 2, 1) := by decide +kernel
theorem dX7_many_5 : decode cX7_many 5 = .ok (.bipush 8, 2) := by decide +kernel
theorem dX7_many_7 : decode cX7_many 7 = .ok (.if_icmp .ge 17, 3) := by decide +kernel
theorem dX7_many_10 : decode cX7_many 10 = .ok (.iload_n 1, 1) := by decide +kernel
theorem dX7_many_11 : decode cX7_many 11 = .ok (.iload_n 0, 1) := by decide +kernel
theorem dX7_many_12 : decode cX7_many 12 = .ok (.iload_n 2, 1) := by decide +kernel
theorem dX7_many_13 : decode cX7_many 13 = .ok (.ishr, 1) := by decide +kernel
theorem dX7_many_14 : decode cX7_many 14 = .ok (.iconst 1, 1) := by decide +kernel
theorem dX7_many_15 : decode cX7_many 15 = .ok (.iand, 1) := by decide +kernel
theorem dX7_many_16 : decode cX7_many 16 = .ok (.iadd, 1) := by decide +kernel
theorem dX7_many_17 : decode cX7_many 17 = .ok (.istore_n 1, 1) := by decide +kernel
theorem dX7_many_18 : decode cX7_many 18 = .ok (.iinc 2 1, 3) := by decide +kernel
theorem dX7_many_21 : decode cX7_many 21 = .ok (.goto (-17), 3) := by decide +kernel
theorem dX7_many_24 : decode cX7_many 24 = .ok (.iload_n 1, 1) := by decide +kernel
theorem dX7_many_25 : decode cX7_many 25 = .ok (.ireturn, 1) := by decide +kernel
theorem dX7_day_0 : decode cX7_day 0 = .ok (.iload_n 1, 1) := by decide +kernel
theorem dX7_day_1 : decode cX7_day 1 = .ok (.invokestatic 183, 3) := by decide +kernel
theorem dX7_day_4 : decode cX7_day 4 = .ok (.ifCond .eq 15, 3) := by decide +kernel
theorem dX7_day_7 : decode cX7_day 7 = .ok (.iload_n 2, 1) := by decide +kernel
theorem dX7_day_8 : decode cX7_day 8 = .ok (.i2l, 1) := by decide +kernel
theorem dX7_day_9 : decode cX7_day 9 = .ok (.lconst 0, 1) := by decide +kernel
theorem dX7_day_10 : decode cX7_day 10 = .ok (.ldc2_w 189, 3) := by decide +kernel
theorem dX7_day_13 : decode cX7_day 13 = .ok (.invokestatic 80, 3) := by decide +kernel
theorem dX7_day_16 : decode cX7_day 16 = .ok (.ifCond .ne 5, 3) := by decide +kernel
theorem dX7_day_19 : decode cX7_day 19 = .ok (.iconst (-1), 1) := by decide +kernel
theorem dX7_day_20 : decode cX7_day 20 = .ok (.ireturn, 1) := by decide +kernel
theorem dX7_day_21 : decode cX7_day 21 = .ok (.aload_n 0, 1) := by decide +kernel
theorem dX7_day_22 : decode cX7_day 22 = .ok (.iload_n 1, 1) := by decide +kernel
theorem dX7_day_23 : decode cX7_day 23 = .ok (.invokevirtual 191, 3) := by decide +kernel
theorem dX7_day_26 : decode cX7_day 26 = .ok (.iload_n 2, 1) := by decide +kernel
theorem dX7_day_27 : decode cX7_day 27 = .ok (.ifCond .ne 10, 3) := by decide +kernel
theorem dX7_day_30 : decode cX7_day 30 = .ok (.aload_n 0, 1) := by decide +kernel
theorem dX7_day_31 : decode cX7_day 31 = .ok (.getfield 170, 3) := by decide +kernel
theorem dX7_day_34 : decode cX7_day 34 = .ok (.goto 61, 3) := by decide +kernel
theorem dX7_day_37 : decode cX7_day 37 = .ok (.iload_n 2, 1) := by decide +kernel
theorem dX7_day_38 : decode cX7_day 38 = .ok (.iconst 1, 1) := by decide +kernel
theorem dX7_day_39 : decode cX7_day 39 = .ok (.if_icmp .ne 10, 3) := by decide +kernel
theorem dX7_day_42 : decode cX7_day 42 = .ok (.aload_n 0, 1) := by decide +kernel
theorem dX7_day_43 : decode cX7_day 43 = .ok (.getfield 167, 3) := by decide +kernel
theorem dX7_day_46 : decode cX7_day 46 = .ok (.goto 49, 3) := by decide +kernel
theorem dX7_day_49 : decode cX7_day 49 = .ok (.iload_n 2, 1) := by decide +kernel
theorem dX7_day_50 : decode cX7_day 50 = .ok (.iconst 2, 1) := by decide +kernel
theorem dX7_day_51 : decode cX7_day 51 = .ok (.if_icmp .ne 13, 3) := by decide +kernel
theorem dX7_day_54 : decode cX7_day 54 = .ok (.aload_n 0, 1) := by decide +kernel
theorem dX7_day_55 : decode cX7_day 55 = .ok (.getfield 149, 3) := by decide +kernel
theorem dX7_day_58 : decode cX7_day 58 = .ok (.invokestatic 195, 3) := by decide +kernel
theorem dX7_day_61 : decode cX7_day 61 = .ok (.goto 34, 3) := by decide +kernel
theorem dX7_day_64 : decode cX7_day 64 = .ok (.iload_n 2, 1) := by decide +kernel
theorem dX7_day_65 : decode cX7_day 65 = .ok (.iconst 3, 1) := by decide +kernel
theorem dX7_day_66 : decode cX7_day 66 = .ok (.if_icmp .ne 10, 3) := by decide +kernel
theorem dX7_day_69 : decode cX7_day 69 = .ok (.aload_n 0, 1) := by decide +kernel
theorem dX7_day_70 : decode cX7_day 70 = .ok (.getfield 149, 3) := by decide +kernel
theorem dX7_day_73 : decode cX7_day 73 = .ok (.goto 22, 3) := by decide +kernel
theorem dX7_day_76 : decode cX7_day 76 = .ok (.iload_n 2, 1) := by decide +kernel
theorem dX7_day_77 : decode cX7_day 77 = .ok (.iconst 4, 1) := by decide +kernel
theorem dX7_day_78 : decode cX7_day 78 = .ok (.if_icmp .ne 13, 3) := by decide +kernel
theorem dX7_day_81 : decode cX7_day 81 = .ok (.aload_n 0, 1) := by decide +kernel
theorem dX7_day_82 : decode cX7_day 82 = .ok (.getfield 139, 3) := by decide +kernel
theorem dX7_day_85 : decode cX7_day 85 = .ok (.invokestatic 195, 3) := by decide +kernel
theorem dX7_day_88 : decode cX7_day 88 = .ok (.goto 7, 3) := by decide +kernel
theorem dX7_day_91 : decode cX7_day 91 = .ok (.aload_n 0, 1) := by decide +kernel
theorem dX7_day_92 : decode cX7_day 92 = .ok (.getfield 139, 3) := by decide +kernel
theorem dX7_day_95 : decode cX7_day 95 = .ok (.ireturn, 1) := by decide +kernel
theorem dX7_sat_0 : decode cX7_sat 0 = .ok (.iload_n 1, 1) := by decide +kernel
theorem dX7_sat_1 : decode cX7_sat 1 = .ok (.invokestatic 183, 3) := by decide +kernel
theorem dX7_sat_4 : decode cX7_sat 4 = .ok (.ifCond .eq 11, 3) := by decide +kernel
theorem dX7_sat_7 : decode cX7_sat 7 = .ok (.aload_n 0, 1) := by decide +kernel
theorem dX7_sat_8 : decode cX7_sat 8 = .ok (.iload_n 2, 1) := by decide +kernel
theorem dX7_sat_9 : decode cX7_sat 9 = .ok (.invokevirtual 130, 3) := by decide +kernel
theorem dX7_sat_12 : decode cX7_sat 12 = .ok (.ifCond .ne 5, 3) := by decide +kernel
theorem dX7_sat_15 : decode cX7_sat 15 = .ok (.iconst (-1), 1) := by decide +kernel
theorem dX7_sat_16 : decode cX7_sat 16 = .ok (.ireturn, 1) := by decide +kernel
theorem dX7_sat_17 : decode cX7_sat 17 = .ok (.aload_n 0, 1) := by decide +kernel
theorem dX7_sat_18 : decode cX7_sat 18 = .ok (.iload_n 1, 1) := by decide +kernel
theorem dX7_sat_19 : decode cX7_sat 19 = .ok (.invokevirtual 191, 3) := by decide +kernel
theorem dX7_sat_22 : decode cX7_sat 22 = .ok (.aload_n 0, 1) := by decide +kernel
theorem dX7_sat_23 : decode cX7_sat 23 = .ok (.getfield 38, 3) := by decide +kernel
theorem dX7_sat_26 : decode cX7_sat 26 = .ok (.iload_n 2, 1) := by decide +kernel
theorem dX7_sat_27 : decode cX7_sat 27 = .ok (.iaload, 1) := by decide +kernel
theorem dX7_sat_28 : decode cX7_sat 28 = .ok (.ireturn, 1) := by decide +kernel
theorem dX7_bettered_0 : decode cX7_bettered 0 = .ok (.iconst 0, 1) := by decide +kernel
theorem dX7_bettered_1 : decode cX7_bettered 1 = .ok (.istore_n 1, 1) := by decide +kernel
theorem dX7_bettered_2 : decode cX7_bettered 2 = .ok (.iload_n 1, 1) := by decide +kernel
theorem dX7_bettered_3 : decode cX7_bettered 3 = .ok (.iconst 5, 1) := by decide +kernel
theorem dX7_bettered_4 : decode cX7_bettered 4 = .ok (.if_icmp .ge 62, 3) := by decide +kernel
theorem dX7_bettered_7 : decode cX7_bettered 7 = .ok (.aload_n 0, 1) := by decide +kernel
theorem dX7_bettered_8 : decode cX7_bettered 8 = .ok (.iload_n 1, 1) := by decide +kernel
theorem dX7_bettered_9 : decode cX7_bettered 9 = .ok (.invokevirtual 191, 3) := by decide +kernel
theorem dX7_bettered_12 : decode cX7_bettered 12 = .ok (.aload_n 0, 1) := by decide +kernel
theorem dX7_bettered_13 : decode cX7_bettered 13 = .ok (.getfield 66, 3) := by decide +kernel
theorem dX7_bettered_16 : decode cX7_bettered 16 = .ok (.iconst 3, 1) := by decide +kernel
theorem dX7_bettered_17 : decode cX7_bettered 17 = .ok (.iload_n 1, 1) := by decide +kernel
theorem dX7_bettered_18 : decode cX7_bettered 18 = .ok (.imul, 1) := by decide +kernel
theorem dX7_bettered_19 : decode cX7_bettered 19 = .ok (.aload_n 0, 1) := by decide +kernel
theorem dX7_bettered_20 : decode cX7_bettered 20 = .ok (.getfield 170, 3) := by decide +kernel
theorem dX7_bettered_23 : decode cX7_bettered 23 = .ok (.iastore, 1) := by decide +kernel
theorem dX7_bettered_24 : decode cX7_bettered 24 = .ok (.aload_n 0, 1) := by decide +kernel
theorem dX7_bettered_25 : decode cX7_bettered 25 = .ok (.getfield 66, 3) := by decide +kernel
theorem dX7_bettered_28 : decode cX7_bettered 28 = .ok (.iconst 3, 1) := by decide +kernel
theorem dX7_bettered_29 : decode cX7_bettered 29 = .ok (.iload_n 1, 1) := by decide +kernel
theorem dX7_bettered_30 : decode cX7_bettered 30 = .ok (.imul, 1) := by decide +kernel
theorem dX7_bettered_31 : decode cX7_bettered 31 = .ok (.iconst 1, 1) := by decide +kernel
theorem dX7_bettered_32 : decode cX7_bettered 32 = .ok (.iadd, 1) := by decide +kernel
theorem dX7_bettered_33 : decode cX7_bettered 33 = .ok (.aload_n 0, 1) := by decide +kernel
theorem dX7_bettered_34 : decode cX7_bettered 34 = .ok (.getfield 149, 3) := by decide +kernel
theorem dX7_bettered_37 : decode cX7_bettered 37 = .ok (.invokestatic 195, 3) := by decide +kernel
theorem dX7_bettered_40 : decode cX7_bettered 40 = .ok (.ineg, 1) := by decide +kernel
theorem dX7_bettered_41 : decode cX7_bettered 41 = .ok (.iastore, 1) := by decide +kernel
theorem dX7_bettered_42 : decode cX7_bettered 42 = .ok (.aload_n 0, 1) := by decide +kernel
theorem dX7_bettered_43 : decode cX7_bettered 43 = .ok (.getfield 66, 3) := by decide +kernel
theorem dX7_bettered_46 : decode cX7_bettered 46 = .ok (.iconst 3, 1) := by decide +kernel
theorem dX7_bettered_47 : decode cX7_bettered 47 = .ok (.iload_n 1, 1) := by decide +kernel
theorem dX7_bettered_48 : decode cX7_bettered 48 = .ok (.imul, 1) := by decide +kernel
theorem dX7_bettered_49 : decode cX7_bettered 49 = .ok (.iconst 2, 1) := by decide +kernel
theorem dX7_bettered_50 : decode cX7_bettered 50 = .ok (.iadd, 1) := by decide +kernel
theorem dX7_bettered_51 : decode cX7_bettered 51 = .ok (.aload_n 0, 1) := by decide +kernel
theorem dX7_bettered_52 : decode cX7_bettered 52 = .ok (.getfield 139, 3) := by decide +kernel
theorem dX7_bettered_55 : decode cX7_bettered 55 = .ok (.invokestatic 195, 3) := by decide +kernel
theorem dX7_bettered_58 : decode cX7_bettered 58 = .ok (.ineg, 1) := by decide +kernel
theorem dX7_bettered_59 : decode cX7_bettered 59 = .ok (.iastore, 1) := by decide +kernel
theorem dX7_bettered_60 : decode cX7_bettered 60 = .ok (.iinc 1 1, 3) := by decide +kernel
theorem dX7_bettered_63 : decode cX7_bettered 63 = .ok (.goto (-61), 3) := by decide +kernel
theorem dX7_bettered_66 : decode cX7_bettered 66 = .ok (.iconst 0, 1) := by decide +kernel
theorem dX7_bettered_67 : decode cX7_bettered 67 = .ok (.istore_n 1, 1) := by decide +kernel
theorem dX7_bettered_68 : decode cX7_bettered 68 = .ok (.iconst 0, 1) := by decide +kernel
theorem dX7_bettered_69 : decode cX7_bettered 69 = .ok (.istore_n 2, 1) := by decide +kernel
theorem dX7_bettered_70 : decode cX7_bettered 70 = .ok (.iload_n 2, 1) := by decide +kernel
theorem dX7_bettered_71 : decode cX7_bettered 71 = .ok (.iconst 5, 1) := by decide +kernel
theorem dX7_bettered_72 : decode cX7_bettered 72 = .ok (.if_icmp .ge 137, 3) := by decide +kernel
theorem dX7_bettered_75 : decode cX7_bettered 75 = .ok (.iconst 0, 1) := by decide +kernel
theorem dX7_bettered_76 : decode cX7_bettered 76 = .ok (.istore_n 3, 1) := by decide +kernel
theorem dX7_bettered_77 : decode cX7_bettered 77 = .ok (.iload_n 3, 1) := by decide +kernel
theorem dX7_bettered_78 : decode cX7_bettered 78 = .ok (.iconst 5, 1) := by decide +kernel
theorem dX7_bettered_79 : decode cX7_bettered 79 = .ok (.if_icmp .ge 124, 3) := by decide +kernel
theorem dX7_bettered_82 : decode cX7_bettered 82 = .ok (.iconst 1, 1) := by decide +kernel
theorem dX7_bettered_83 : decode cX7_bettered 83 = .ok (.istore 4, 2) := by decide +kernel
theorem dX7_bettered_85 : decode cX7_bettered 85 = .ok (.iconst 0, 1) := by decide +kernel
theorem dX7_bettered_86 : decode cX7_bettered 86 = .ok (.istore 5, 2) := by decide +kernel
theorem dX7_bettered_88 : decode cX7_bettered 88 = .ok (.iconst 0, 1) := by decide +kernel
theorem dX7_bettered_89 : decode cX7_bettered 89 = .ok (.istore 6, 2) := by decide +kernel
theorem dX7_bettered_91 : decode cX7_bettered 91 = .ok (.iload 6, 2) := by decide +kernel
theorem dX7_bettered_93 : decode cX7_bettered 93 = .ok (.iconst 3, 1) := by decide +kernel
theorem dX7_bettered_94 : decode cX7_bettered 94 = .ok (.if_icmp .ge 83, 3) := by decide +kernel
theorem dX7_bettered_97 : decode cX7_bettered 97 = .ok (.iload 4, 2) := by decide +kernel
theorem dX7_bettered_99 : decode cX7_bettered 99 = .ok (.ifCond .eq 32, 3) := by decide +kernel
theorem dX7_bettered_102 : decode cX7_bettered 102 = .ok (.aload_n 0, 1) := by decide +kernel
theorem dX7_bettered_103 : decode cX7_bettered 103 = .ok (.getfield 66, 3) := by decide +kernel
theorem dX7_bettered_106 : decode cX7_bettered 106 = .ok (.iconst 3, 1) := by decide +kernel
theorem dX7_bettered_107 : decode cX7_bettered 107 = .ok (.iload_n 3, 1) := by decide +kernel
theorem dX7_bettered_108 : decode cX7_bettered 108 = .ok (.imul, 1) := by decide +kernel
theorem dX7_bettered_109 : decode cX7_bettered 109 = .ok (.iload 6, 2) := by decide +kernel
theorem dX7_bettered_111 : decode cX7_bettered 111 = .ok (.iadd, 1) := by decide +kernel
theorem dX7_bettered_112 : decode cX7_bettered 112 = .ok (.iaload, 1) := by decide +kernel
theorem dX7_bettered_113 : decode cX7_bettered 113 = .ok (.aload_n 0, 1) := by decide +kernel
theorem dX7_bettered_114 : decode cX7_bettered 114 = .ok (.getfield 66, 3) := by decide +kernel
theorem dX7_bettered_117 : decode cX7_bettered 117 = .ok (.iconst 3, 1) := by decide +kernel
theorem dX7_bettered_118 : decode cX7_bettered 118 = .ok (.iload_n 2, 1) := by decide +kernel
theorem dX7_bettered_119 : decode cX7_bettered 119 = .ok (.imul, 1) := by decide +kernel
theorem dX7_bettered_120 : decode cX7_bettered 120 = .ok (.iload 6, 2) := by decide +kernel
theorem dX7_bettered_122 : decode cX7_bettered 122 = .ok (.iadd, 1) := by decide +kernel
theorem dX7_bettered_123 : decode cX7_bettered 123 = .ok (.iaload, 1) := by decide +kernel
theorem dX7_bettered_124 : decode cX7_bettered 124 = .ok (.if_icmp .lt 7, 3) := by decide +kernel
theorem dX7_bettered_127 : decode cX7_bettered 127 = .ok (.iconst 1, 1) := by decide +kernel
theorem dX7_bettered_128 : decode cX7_bettered 128 = .ok (.goto 4, 3) := by decide +kernel
theorem dX7_bettered_131 : decode cX7_bettered 131 = .ok (.iconst 0, 1) := by decide +kernel
theorem dX7_bettered_132 : decode cX7_bettered 132 = .ok (.istore 4, 2) := by decide +kernel
theorem dX7_bettered_134 : decode cX7_bettered 134 = .ok (.iload 5, 2) := by decide +kernel
theorem dX7_bettered_136 : decode cX7_bettered 136 = .ok (.ifCond .ne 28, 3) := by decide +kernel
theorem dX7_bettered_139 : decode cX7_bettered 139 = .ok (.aload_n 0, 1) := by decide +kernel
theorem dX7_bettered_140 : decode cX7_bettered 140 = .ok (.getfield 66, 3) := by decide +kernel
theorem dX7_bettered_143 : decode cX7_bettered 143 = .ok (.iconst 3, 1) := by decide +kernel
theorem dX7_bettered_144 : decode cX7_bettered 144 = .ok (.iload_n 3, 1) := by decide +kernel
theorem dX7_bettered_145 : decode cX7_bettered 145 = .ok (.imul, 1) := by decide +kernel
theorem dX7_bettered_146 : decode cX7_bettered 146 = .ok (.iload 6, 2) := by decide +kernel
theorem dX7_bettered_148 : decode cX7_bettered 148 = .ok (.iadd, 1) := by decide +kernel
theorem dX7_bettered_149 : decode cX7_bettered 149 = .ok (.iaload, 1) := by decide +kernel
theorem dX7_bettered_150 : decode cX7_bettered 150 = .ok (.aload_n 0, 1) := by decide +kernel
theorem dX7_bettered_151 : decode cX7_bettered 151 = .ok (.getfield 66, 3) := by decide +kernel
theorem dX7_bettered_154 : decode cX7_bettered 154 = .ok (.iconst 3, 1) := by decide +kernel
theorem dX7_bettered_155 : decode cX7_bettered 155 = .ok (.iload_n 2, 1) := by decide +kernel
theorem dX7_bettered_156 : decode cX7_bettered 156 = .ok (.imul, 1) := by decide +kernel
theorem dX7_bettered_157 : decode cX7_bettered 157 = .ok (.iload 6, 2) := by decide +kernel
theorem dX7_bettered_159 : decode cX7_bettered 159 = .ok (.iadd, 1) := by decide +kernel
theorem dX7_bettered_160 : decode cX7_bettered 160 = .ok (.iaload, 1) := by decide +kernel
theorem dX7_bettered_161 : decode cX7_bettered 161 = .ok (.if_icmp .le 7, 3) := by decide +kernel
theorem dX7_bettered_164 : decode cX7_bettered 164 = .ok (.iconst 1, 1) := by decide +kernel
theorem dX7_bettered_165 : decode cX7_bettered 165 = .ok (.goto 4, 3) := by decide +kernel
theorem dX7_bettered_168 : decode cX7_bettered 168 = .ok (.iconst 0, 1) := by decide +kernel
theorem dX7_bettered_169 : decode cX7_bettered 169 = .ok (.istore 5, 2) := by decide +kernel
theorem dX7_bettered_171 : decode cX7_bettered 171 = .ok (.iinc 6 1, 3) := by decide +kernel
theorem dX7_bettered_174 : decode cX7_bettered 174 = .ok (.goto (-83), 3) := by decide +kernel
theorem dX7_bettered_177 : decode cX7_bettered 177 = .ok (.iload_n 1, 1) := by decide +kernel
theorem dX7_bettered_178 : decode cX7_bettered 178 = .ok (.iload 4, 2) := by decide +kernel
theorem dX7_bettered_180 : decode cX7_bettered 180 = .ok (.ifCond .eq 14, 3) := by decide +kernel
theorem dX7_bettered_183 : decode cX7_bettered 183 = .ok (.iload 5, 2) := by decide +kernel
theorem dX7_bettered_185 : decode cX7_bettered 185 = .ok (.ifCond .eq 9, 3) := by decide +kernel
theorem dX7_bettered_188 : decode cX7_bettered 188 = .ok (.iconst 1, 1) := by decide +kernel
theorem dX7_bettered_189 : decode cX7_bettered 189 = .ok (.iload_n 2, 1) := by decide +kernel
theorem dX7_bettered_190 : decode cX7_bettered 190 = .ok (.ishl, 1) := by decide +kernel
theorem dX7_bettered_191 : decode cX7_bettered 191 = .ok (.goto 4, 3) := by decide +kernel
theorem dX7_bettered_194 : decode cX7_bettered 194 = .ok (.iconst 0, 1) := by decide +kernel
theorem dX7_bettered_195 : decode cX7_bettered 195 = .ok (.ior, 1) := by decide +kernel
theorem dX7_bettered_196 : decode cX7_bettered 196 = .ok (.istore_n 1, 1) := by decide +kernel
theorem dX7_bettered_197 : decode cX7_bettered 197 = .ok (.iinc 3 1, 3) := by decide +kernel
theorem dX7_bettered_200 : decode cX7_bettered 200 = .ok (.goto (-123), 3) := by decide +kernel
theorem dX7_bettered_203 : decode cX7_bettered 203 = .ok (.iinc 2 1, 3) := by decide +kernel
theorem dX7_bettered_206 : decode cX7_bettered 206 = .ok (.goto (-136), 3) := by decide +kernel
theorem dX7_bettered_209 : decode cX7_bettered 209 = .ok (.iload_n 1, 1) := by decide +kernel
theorem dX7_bettered_210 : decode cX7_bettered 210 = .ok (.ireturn, 1) := by decide +kernel
theorem dX7_rest_0 : decode cX7_rest 0 = .ok (.iload_n 1, 1) := by decide +kernel
theorem dX7_rest_1 : decode cX7_rest 1 = .ok (.invokestatic 183, 3) := by decide +kernel
theorem dX7_rest_4 : decode cX7_rest 4 = .ok (.ifCond .eq 23, 3) := by decide +kernel
theorem dX7_rest_7 : decode cX7_rest 7 = .ok (.iload_n 2, 1) := by decide +kernel
theorem dX7_rest_8 : decode cX7_rest 8 = .ok (.i2l, 1) := by decide +kernel
theorem dX7_rest_9 : decode cX7_rest 9 = .ok (.lconst 0, 1) := by decide +kernel
theorem dX7_rest_10 : decode cX7_rest 10 = .ok (.iconst 1, 1) := by decide +kernel
end
section
theorem dX7_rest_11 : decode cX7_rest 11 = .ok (.aload_n 0, 1) := by decide +kernel
theorem dX7_rest_12 : decode cX7_rest 12 = .ok (.getfield 17, 3) := by decide +kernel
theorem dX7_rest_15 : decode cX7_rest 15 = .ok (.iconst 0, 1) := by decide +kernel
theorem dX7_rest_16 : decode cX7_rest 16 = .ok (.iaload, 1) := by decide +kernel
theorem dX7_rest_17 : decode cX7_rest 17 = .ok (.ishl, 1) := by decide +kernel
theorem dX7_rest_18 : decode cX7_rest 18 = .ok (.iconst 1, 1) := by decide +kernel
theorem dX7_rest_19 : decode cX7_rest 19 = .ok (.isub, 1) := by decide +kernel
theorem dX7_rest_20 : decode cX7_rest 20 = .ok (.i2l, 1) := by decide +kernel
theorem dX7_rest_21 : decode cX7_rest 21 = .ok (.invokestatic 80, 3) := by decide +kernel
theorem dX7_rest_24 : decode cX7_rest 24 = .ok (.ifCond .ne 5, 3) := by decide +kernel
theorem dX7_rest_27 : decode cX7_rest 27 = .ok (.iconst (-1), 1) := by decide +kernel
theorem dX7_rest_28 : decode cX7_rest 28 = .ok (.ireturn, 1) := by decide +kernel
theorem dX7_rest_29 : decode cX7_rest 29 = .ok (.aload_n 0, 1) := by decide +kernel
theorem dX7_rest_30 : decode cX7_rest 30 = .ok (.iload_n 1, 1) := by decide +kernel
theorem dX7_rest_31 : decode cX7_rest 31 = .ok (.iload_n 2, 1) := by decide +kernel
theorem dX7_rest_32 : decode cX7_rest 32 = .ok (.sipush 399, 3) := by decide +kernel
theorem dX7_rest_35 : decode cX7_rest 35 = .ok (.aload_n 0, 1) := by decide +kernel
theorem dX7_rest_36 : decode cX7_rest 36 = .ok (.getfield 26, 3) := by decide +kernel
theorem dX7_rest_39 : decode cX7_rest 39 = .ok (.iconst 0, 1) := by decide +kernel
theorem dX7_rest_40 : decode cX7_rest 40 = .ok (.iaload, 1) := by decide +kernel
theorem dX7_rest_41 : decode cX7_rest 41 = .ok (.aload_n 0, 1) := by decide +kernel
theorem dX7_rest_42 : decode cX7_rest 42 = .ok (.getfield 26, 3) := by decide +kernel
theorem dX7_rest_45 : decode cX7_rest 45 = .ok (.iconst 1, 1) := by decide +kernel
theorem dX7_rest_46 : decode cX7_rest 46 = .ok (.iaload, 1) := by decide +kernel
theorem dX7_rest_47 : decode cX7_rest 47 = .ok (.invokevirtual 180, 3) := by decide +kernel
theorem dX7_rest_50 : decode cX7_rest 50 = .ok (.iconst 0, 1) := by decide +kernel
theorem dX7_rest_51 : decode cX7_rest 51 = .ok (.istore_n 3, 1) := by decide +kernel
theorem dX7_rest_52 : decode cX7_rest 52 = .ok (.iload_n 3, 1) := by decide +kernel
theorem dX7_rest_53 : decode cX7_rest 53 = .ok (.bipush 8, 2) := by decide +kernel
theorem dX7_rest_55 : decode cX7_rest 55 = .ok (.if_icmp .ge 21, 3) := by decide +kernel
theorem dX7_rest_58 : decode cX7_rest 58 = .ok (.aload_n 0, 1) := by decide +kernel
theorem dX7_rest_59 : decode cX7_rest 59 = .ok (.getfield 63, 3) := by decide +kernel
theorem dX7_rest_62 : decode cX7_rest 62 = .ok (.iload_n 3, 1) := by decide +kernel
theorem dX7_rest_63 : decode cX7_rest 63 = .ok (.aload_n 0, 1) := by decide +kernel
theorem dX7_rest_64 : decode cX7_rest 64 = .ok (.getfield 38, 3) := by decide +kernel
theorem dX7_rest_67 : decode cX7_rest 67 = .ok (.iload_n 3, 1) := by decide +kernel
theorem dX7_rest_68 : decode cX7_rest 68 = .ok (.iaload, 1) := by decide +kernel
theorem dX7_rest_69 : decode cX7_rest 69 = .ok (.iastore, 1) := by decide +kernel
theorem dX7_rest_70 : decode cX7_rest 70 = .ok (.iinc 3 1, 3) := by decide +kernel
theorem dX7_rest_73 : decode cX7_rest 73 = .ok (.goto (-21), 3) := by decide +kernel
theorem dX7_rest_76 : decode cX7_rest 76 = .ok (.iconst 0, 1) := by decide +kernel
theorem dX7_rest_77 : decode cX7_rest 77 = .ok (.istore_n 3, 1) := by decide +kernel
theorem dX7_rest_78 : decode cX7_rest 78 = .ok (.iload_n 3, 1) := by decide +kernel
theorem dX7_rest_79 : decode cX7_rest 79 = .ok (.aload_n 0, 1) := by decide +kernel
theorem dX7_rest_80 : decode cX7_rest 80 = .ok (.getfield 17, 3) := by decide +kernel
theorem dX7_rest_83 : decode cX7_rest 83 = .ok (.iconst 0, 1) := by decide +kernel
theorem dX7_rest_84 : decode cX7_rest 84 = .ok (.iaload, 1) := by decide +kernel
theorem dX7_rest_85 : decode cX7_rest 85 = .ok (.if_icmp .ge 51, 3) := by decide +kernel
theorem dX7_rest_88 : decode cX7_rest 88 = .ok (.aload_n 0, 1) := by decide +kernel
theorem dX7_rest_89 : decode cX7_rest 89 = .ok (.iload_n 1, 1) := by decide +kernel
theorem dX7_rest_90 : decode cX7_rest 90 = .ok (.iload_n 2, 1) := by decide +kernel
theorem dX7_rest_91 : decode cX7_rest 91 = .ok (.iconst 1, 1) := by decide +kernel
theorem dX7_rest_92 : decode cX7_rest 92 = .ok (.iload_n 3, 1) := by decide +kernel
theorem dX7_rest_93 : decode cX7_rest 93 = .ok (.ishl, 1) := by decide +kernel
theorem dX7_rest_94 : decode cX7_rest 94 = .ok (.ixor, 1) := by decide +kernel
theorem dX7_rest_95 : decode cX7_rest 95 = .ok (.sipush 399, 3) := by decide +kernel
theorem dX7_rest_98 : decode cX7_rest 98 = .ok (.aload_n 0, 1) := by decide +kernel
theorem dX7_rest_99 : decode cX7_rest 99 = .ok (.getfield 26, 3) := by decide +kernel
theorem dX7_rest_102 : decode cX7_rest 102 = .ok (.iconst 0, 1) := by decide +kernel
theorem dX7_rest_103 : decode cX7_rest 103 = .ok (.iaload, 1) := by decide +kernel
theorem dX7_rest_104 : decode cX7_rest 104 = .ok (.aload_n 0, 1) := by decide +kernel
theorem dX7_rest_105 : decode cX7_rest 105 = .ok (.getfield 26, 3) := by decide +kernel
theorem dX7_rest_108 : decode cX7_rest 108 = .ok (.iconst 1, 1) := by decide +kernel
theorem dX7_rest_109 : decode cX7_rest 109 = .ok (.iaload, 1) := by decide +kernel
theorem dX7_rest_110 : decode cX7_rest 110 = .ok (.invokevirtual 180, 3) := by decide +kernel
theorem dX7_rest_113 : decode cX7_rest 113 = .ok (.aload_n 0, 1) := by decide +kernel
theorem dX7_rest_114 : decode cX7_rest 114 = .ok (.getfield 38, 3) := by decide +kernel
theorem dX7_rest_117 : decode cX7_rest 117 = .ok (.iload_n 3, 1) := by decide +kernel
theorem dX7_rest_118 : decode cX7_rest 118 = .ok (.iaload, 1) := by decide +kernel
theorem dX7_rest_119 : decode cX7_rest 119 = .ok (.aload_n 0, 1) := by decide +kernel
theorem dX7_rest_120 : decode cX7_rest 120 = .ok (.getfield 63, 3) := by decide +kernel
theorem dX7_rest_123 : decode cX7_rest 123 = .ok (.iload_n 3, 1) := by decide +kernel
theorem dX7_rest_124 : decode cX7_rest 124 = .ok (.iaload, 1) := by decide +kernel
theorem dX7_rest_125 : decode cX7_rest 125 = .ok (.if_icmp .le 5, 3) := by decide +kernel
theorem dX7_rest_128 : decode cX7_rest 128 = .ok (.iconst 0, 1) := by decide +kernel
theorem dX7_rest_129 : decode cX7_rest 129 = .ok (.ireturn, 1) := by decide +kernel
theorem dX7_rest_130 : decode cX7_rest 130 = .ok (.iinc 3 1, 3) := by decide +kernel
theorem dX7_rest_133 : decode cX7_rest 133 = .ok (.goto (-55), 3) := by decide +kernel
theorem dX7_rest_136 : decode cX7_rest 136 = .ok (.iconst 1, 1) := by decide +kernel
theorem dX7_rest_137 : decode cX7_rest 137 = .ok (.ireturn, 1) := by decide +kernel
theorem dX7_rests_0 : decode cX7_rests 0 = .ok (.iload_n 1, 1) := by decide +kernel
theorem dX7_rests_1 : decode cX7_rests 1 = .ok (.invokestatic 183, 3) := by decide +kernel
theorem dX7_rests_4 : decode cX7_rests 4 = .ok (.ifCond .eq 15, 3) := by decide +kernel
theorem dX7_rests_7 : decode cX7_rests 7 = .ok (.iload_n 2, 1) := by decide +kernel
theorem dX7_rests_8 : decode cX7_rests 8 = .ok (.i2l, 1) := by decide +kernel
theorem dX7_rests_9 : decode cX7_rests 9 = .ok (.lconst 0, 1) := by decide +kernel
theorem dX7_rests_10 : decode cX7_rests 10 = .ok (.ldc2_w 198, 3) := by decide +kernel
theorem dX7_rests_13 : decode cX7_rests 13 = .ok (.invokestatic 80, 3) := by decide +kernel
theorem dX7_rests_16 : decode cX7_rests 16 = .ok (.ifCond .ne 5, 3) := by decide +kernel
theorem dX7_rests_19 : decode cX7_rests 19 = .ok (.iconst (-1), 1) := by decide +kernel
theorem dX7_rests_20 : decode cX7_rests 20 = .ok (.ireturn, 1) := by decide +kernel
theorem dX7_rests_21 : decode cX7_rests 21 = .ok (.iconst 1, 1) := by decide +kernel
theorem dX7_rests_22 : decode cX7_rests 22 = .ok (.aload_n 0, 1) := by decide +kernel
theorem dX7_rests_23 : decode cX7_rests 23 = .ok (.getfield 17, 3) := by decide +kernel
theorem dX7_rests_26 : decode cX7_rests 26 = .ok (.iconst 0, 1) := by decide +kernel
theorem dX7_rests_27 : decode cX7_rests 27 = .ok (.iaload, 1) := by decide +kernel
theorem dX7_rests_28 : decode cX7_rests 28 = .ok (.ishl, 1) := by decide +kernel
theorem dX7_rests_29 : decode cX7_rests 29 = .ok (.istore_n 3, 1) := by decide +kernel
theorem dX7_rests_30 : decode cX7_rests 30 = .ok (.iconst 0, 1) := by decide +kernel
theorem dX7_rests_31 : decode cX7_rests 31 = .ok (.istore 4, 2) := by decide +kernel
theorem dX7_rests_33 : decode cX7_rests 33 = .ok (.iload 4, 2) := by decide +kernel
theorem dX7_rests_35 : decode cX7_rests 35 = .ok (.iload_n 3, 1) := by decide +kernel
theorem dX7_rests_36 : decode cX7_rests 36 = .ok (.if_icmp .ge 67, 3) := by decide +kernel
theorem dX7_rests_39 : decode cX7_rests 39 = .ok (.aload_n 0, 1) := by decide +kernel
theorem dX7_rests_40 : decode cX7_rests 40 = .ok (.iload_n 1, 1) := by decide +kernel
theorem dX7_rests_41 : decode cX7_rests 41 = .ok (.iload 4, 2) := by decide +kernel
theorem dX7_rests_43 : decode cX7_rests 43 = .ok (.sipush 399, 3) := by decide +kernel
theorem dX7_rests_46 : decode cX7_rests 46 = .ok (.aload_n 0, 1) := by decide +kernel
theorem dX7_rests_47 : decode cX7_rests 47 = .ok (.getfield 26, 3) := by decide +kernel
theorem dX7_rests_50 : decode cX7_rests 50 = .ok (.iconst 0, 1) := by decide +kernel
theorem dX7_rests_51 : decode cX7_rests 51 = .ok (.iaload, 1) := by decide +kernel
theorem dX7_rests_52 : decode cX7_rests 52 = .ok (.aload_n 0, 1) := by decide +kernel
theorem dX7_rests_53 : decode cX7_rests 53 = .ok (.getfield 26, 3) := by decide +kernel
theorem dX7_rests_56 : decode cX7_rests 56 = .ok (.iconst 1, 1) := by decide +kernel
theorem dX7_rests_57 : decode cX7_rests 57 = .ok (.iaload, 1) := by decide +kernel
theorem dX7_rests_58 : decode cX7_rests 58 = .ok (.invokevirtual 180, 3) := by decide +kernel
theorem dX7_rests_61 : decode cX7_rests 61 = .ok (.iconst 0, 1) := by decide +kernel
theorem dX7_rests_62 : decode cX7_rests 62 = .ok (.istore 5, 2) := by decide +kernel
theorem dX7_rests_64 : decode cX7_rests 64 = .ok (.iload 5, 2) := by decide +kernel
theorem dX7_rests_66 : decode cX7_rests 66 = .ok (.bipush 8, 2) := by decide +kernel
theorem dX7_rests_68 : decode cX7_rests 68 = .ok (.if_icmp .ge 29, 3) := by decide +kernel
theorem dX7_rests_71 : decode cX7_rests 71 = .ok (.aload_n 0, 1) := by decide +kernel
theorem dX7_rests_72 : decode cX7_rests 72 = .ok (.getfield 63, 3) := by decide +kernel
theorem dX7_rests_75 : decode cX7_rests 75 = .ok (.bipush 8, 2) := by decide +kernel
theorem dX7_rests_77 : decode cX7_rests 77 = .ok (.iload 4, 2) := by decide +kernel
theorem dX7_rests_79 : decode cX7_rests 79 = .ok (.imul, 1) := by decide +kernel
theorem dX7_rests_80 : decode cX7_rests 80 = .ok (.iload 5, 2) := by decide +kernel
theorem dX7_rests_82 : decode cX7_rests 82 = .ok (.iadd, 1) := by decide +kernel
theorem dX7_rests_83 : decode cX7_rests 83 = .ok (.aload_n 0, 1) := by decide +kernel
theorem dX7_rests_84 : decode cX7_rests 84 = .ok (.getfield 38, 3) := by decide +kernel
theorem dX7_rests_87 : decode cX7_rests 87 = .ok (.iload 5, 2) := by decide +kernel
theorem dX7_rests_89 : decode cX7_rests 89 = .ok (.iaload, 1) := by decide +kernel
theorem dX7_rests_90 : decode cX7_rests 90 = .ok (.iastore, 1) := by decide +kernel
theorem dX7_rests_91 : decode cX7_rests 91 = .ok (.iinc 5 1, 3) := by decide +kernel
theorem dX7_rests_94 : decode cX7_rests 94 = .ok (.goto (-30), 3) := by decide +kernel
theorem dX7_rests_97 : decode cX7_rests 97 = .ok (.iinc 4 1, 3) := by decide +kernel
theorem dX7_rests_100 : decode cX7_rests 100 = .ok (.goto (-67), 3) := by decide +kernel
theorem dX7_rests_103 : decode cX7_rests 103 = .ok (.iconst 0, 1) := by decide +kernel
theorem dX7_rests_104 : decode cX7_rests 104 = .ok (.istore 4, 2) := by decide +kernel
theorem dX7_rests_106 : decode cX7_rests 106 = .ok (.bipush (-4), 2) := by decide +kernel
theorem dX7_rests_108 : decode cX7_rests 108 = .ok (.istore 5, 2) := by decide +kernel
theorem dX7_rests_110 : decode cX7_rests 110 = .ok (.bipush (-4), 2) := by decide +kernel
theorem dX7_rests_112 : decode cX7_rests 112 = .ok (.istore 6, 2) := by decide +kernel
theorem dX7_rests_114 : decode cX7_rests 114 = .ok (.iconst 0, 1) := by decide +kernel
theorem dX7_rests_115 : decode cX7_rests 115 = .ok (.istore 7, 2) := by decide +kernel
theorem dX7_rests_117 : decode cX7_rests 117 = .ok (.iload 7, 2) := by decide +kernel
theorem dX7_rests_119 : decode cX7_rests 119 = .ok (.iload_n 3, 1) := by decide +kernel
theorem dX7_rests_120 : decode cX7_rests 120 = .ok (.if_icmp .ge 126, 3) := by decide +kernel
theorem dX7_rests_123 : decode cX7_rests 123 = .ok (.iconst 1, 1) := by decide +kernel
theorem dX7_rests_124 : decode cX7_rests 124 = .ok (.istore 8, 2) := by decide +kernel
theorem dX7_rests_126 : decode cX7_rests 126 = .ok (.iconst 0, 1) := by decide +kernel
theorem dX7_rests_127 : decode cX7_rests 127 = .ok (.istore 9, 2) := by decide +kernel
theorem dX7_rests_129 : decode cX7_rests 129 = .ok (.iload 9, 2) := by decide +kernel
theorem dX7_rests_131 : decode cX7_rests 131 = .ok (.aload_n 0, 1) := by decide +kernel
theorem dX7_rests_132 : decode cX7_rests 132 = .ok (.getfield 17, 3) := by decide +kernel
theorem dX7_rests_135 : decode cX7_rests 135 = .ok (.iconst 0, 1) := by decide +kernel
theorem dX7_rests_136 : decode cX7_rests 136 = .ok (.iaload, 1) := by decide +kernel
theorem dX7_rests_137 : decode cX7_rests 137 = .ok (.if_icmp .ge 55, 3) := by decide +kernel
theorem dX7_rests_140 : decode cX7_rests 140 = .ok (.iload 8, 2) := by decide +kernel
theorem dX7_rests_142 : decode cX7_rests 142 = .ok (.ifCond .eq 41, 3) := by decide +kernel
theorem dX7_rests_145 : decode cX7_rests 145 = .ok (.aload_n 0, 1) := by decide +kernel
theorem dX7_rests_146 : decode cX7_rests 146 = .ok (.getfield 63, 3) := by decide +kernel
theorem dX7_rests_149 : decode cX7_rests 149 = .ok (.bipush 8, 2) := by decide +kernel
theorem dX7_rests_151 : decode cX7_rests 151 = .ok (.iload 7, 2) := by decide +kernel
theorem dX7_rests_153 : decode cX7_rests 153 = .ok (.iconst 1, 1) := by decide +kernel
theorem dX7_rests_154 : decode cX7_rests 154 = .ok (.iload 9, 2) := by decide +kernel
theorem dX7_rests_156 : decode cX7_rests 156 = .ok (.ishl, 1) := by decide +kernel
theorem dX7_rests_157 : decode cX7_rests 157 = .ok (.ixor, 1) := by decide +kernel
theorem dX7_rests_158 : decode cX7_rests 158 = .ok (.imul, 1) := by decide +kernel
theorem dX7_rests_159 : decode cX7_rests 159 = .ok (.iload 9, 2) := by decide +kernel
theorem dX7_rests_161 : decode cX7_rests 161 = .ok (.iadd, 1) := by decide +kernel
theorem dX7_rests_162 : decode cX7_rests 162 = .ok (.iaload, 1) := by decide +kernel
theorem dX7_rests_163 : decode cX7_rests 163 = .ok (.aload_n 0, 1) := by decide +kernel
theorem dX7_rests_164 : decode cX7_rests 164 = .ok (.getfield 63, 3) := by decide +kernel
theorem dX7_rests_167 : decode cX7_rests 167 = .ok (.bipush 8, 2) := by decide +kernel
theorem dX7_rests_169 : decode cX7_rests 169 = .ok (.iload 7, 2) := by decide +kernel
theorem dX7_rests_171 : decode cX7_rests 171 = .ok (.imul, 1) := by decide +kernel
theorem dX7_rests_172 : decode cX7_rests 172 = .ok (.iload 9, 2) := by decide +kernel
theorem dX7_rests_174 : decode cX7_rests 174 = .ok (.iadd, 1) := by decide +kernel
theorem dX7_rests_175 : decode cX7_rests 175 = .ok (.iaload, 1) := by decide +kernel
theorem dX7_rests_176 : decode cX7_rests 176 = .ok (.if_icmp .gt 7, 3) := by decide +kernel
theorem dX7_rests_179 : decode cX7_rests 179 = .ok (.iconst 1, 1) := by decide +kernel
theorem dX7_rests_180 : decode cX7_rests 180 = .ok (.goto 4, 3) := by decide +kernel
theorem dX7_rests_183 : decode cX7_rests 183 = .ok (.iconst 0, 1) := by decide +kernel
theorem dX7_rests_184 : decode cX7_rests 184 = .ok (.istore 8, 2) := by decide +kernel
theorem dX7_rests_186 : decode cX7_rests 186 = .ok (.iinc 9 1, 3) := by decide +kernel
theorem dX7_rests_189 : decode cX7_rests 189 = .ok (.goto (-60), 3) := by decide +kernel
theorem dX7_rests_192 : decode cX7_rests 192 = .ok (.iload 4, 2) := by decide +kernel
theorem dX7_rests_194 : decode cX7_rests 194 = .ok (.iload 8, 2) := by decide +kernel
theorem dX7_rests_196 : decode cX7_rests 196 = .ok (.ifCond .eq 7, 3) := by decide +kernel
theorem dX7_rests_199 : decode cX7_rests 199 = .ok (.iconst 1, 1) := by decide +kernel
theorem dX7_rests_200 : decode cX7_rests 200 = .ok (.goto 4, 3) := by decide +kernel
theorem dX7_rests_203 : decode cX7_rests 203 = .ok (.iconst 0, 1) := by decide +kernel
theorem dX7_rests_204 : decode cX7_rests 204 = .ok (.iadd, 1) := by decide +kernel
theorem dX7_rests_205 : decode cX7_rests 205 = .ok (.istore 4, 2) := by decide +kernel
theorem dX7_rests_207 : decode cX7_rests 207 = .ok (.iload 8, 2) := by decide +kernel
theorem dX7_rests_209 : decode cX7_rests 209 = .ok (.ifCond .eq 13, 3) := by decide +kernel
theorem dX7_rests_212 : decode cX7_rests 212 = .ok (.iload 5, 2) := by decide +kernel
theorem dX7_rests_214 : decode cX7_rests 214 = .ok (.ifCond .ge 8, 3) := by decide +kernel
theorem dX7_rests_217 : decode cX7_rests 217 = .ok (.iload 7, 2) := by decide +kernel
theorem dX7_rests_219 : decode cX7_rests 219 = .ok (.goto 5, 3) := by decide +kernel
theorem dX7_rests_222 : decode cX7_rests 222 = .ok (.iload 5, 2) := by decide +kernel
theorem dX7_rests_224 : decode cX7_rests 224 = .ok (.istore 5, 2) := by decide +kernel
theorem dX7_rests_226 : decode cX7_rests 226 = .ok (.iload 8, 2) := by decide +kernel
theorem dX7_rests_228 : decode cX7_rests 228 = .ok (.ifCond .eq 8, 3) := by decide +kernel
theorem dX7_rests_231 : decode cX7_rests 231 = .ok (.iload 7, 2) := by decide +kernel
theorem dX7_rests_233 : decode cX7_rests 233 = .ok (.goto 5, 3) := by decide +kernel
theorem dX7_rests_236 : decode cX7_rests 236 = .ok (.iload 6, 2) := by decide +kernel
theorem dX7_rests_238 : decode cX7_rests 238 = .ok (.istore 6, 2) := by decide +kernel
theorem dX7_rests_240 : decode cX7_rests 240 = .ok (.iinc 7 1, 3) := by decide +kernel
theorem dX7_rests_243 : decode cX7_rests 243 = .ok (.goto (-126), 3) := by decide +kernel
theorem dX7_rests_246 : decode cX7_rests 246 = .ok (.iload_n 2, 1) := by decide +kernel
theorem dX7_rests_247 : decode cX7_rests 247 = .ok (.ifCond .ne 8, 3) := by decide +kernel
theorem dX7_rests_250 : decode cX7_rests 250 = .ok (.iload 4, 2) := by decide +kernel
theorem dX7_rests_252 : decode cX7_rests 252 = .ok (.goto 15, 3) := by decide +kernel
theorem dX7_rests_255 : decode cX7_rests 255 = .ok (.iload_n 2, 1) := by decide +kernel
theorem dX7_rests_256 : decode cX7_rests 256 = .ok (.iconst 1, 1) := by decide +kernel
theorem dX7_rests_257 : decode cX7_rests 257 = .ok (.if_icmp .ne 8, 3) := by decide +kernel
theorem dX7_rests_260 : decode cX7_rests 260 = .ok (.iload 5, 2) := by decide +kernel
theorem dX7_rests_262 : decode cX7_rests 262 = .ok (.goto 5, 3) := by decide +kernel
theorem dX7_rests_265 : decode cX7_rests 265 = .ok (.iload 6, 2) := by decide +kernel
theorem dX7_rests_267 : decode cX7_rests 267 = .ok (.ireturn, 1) := by decide +kernel
theorem dX7_counted_0 : decode cX7_counted 0 = .ok (.iconst 0, 1) := by decide +kernel
theorem dX7_counted_1 : decode cX7_counted 1 = .ok (.istore_n 2, 1) := by decide +kernel
theorem dX7_counted_2 : decode cX7_counted 2 = .ok (.iconst 0, 1) := by decide +kernel
theorem dX7_counted_3 : decode cX7_counted 3 = .ok (.istore_n 3, 1) := by decide +kernel
theorem dX7_counted_4 : decode cX7_counted 4 = .ok (.iload_n 3, 1) := by decide +kernel
theorem dX7_counted_5 : decode cX7_counted 5 = .ok (.sipush 400, 3) := by decide +kernel
theorem dX7_counted_8 : decode cX7_counted 8 = .ok (.if_icmp .ge 19, 3) := by decide +kernel
theorem dX7_counted_11 : decode cX7_counted 11 = .ok (.iload_n 2, 1) := by decide +kernel
theorem dX7_counted_12 : decode cX7_counted 12 = .ok (.aload_n 0, 1) := by decide +kernel
theorem dX7_counted_13 : decode cX7_counted 13 = .ok (.getfield 60, 3) := by decide +kernel
theorem dX7_counted_16 : decode cX7_counted 16 = .ok (.iload_n 3, 1) := by decide +kernel
theorem dX7_counted_17 : decode cX7_counted 17 = .ok (.iaload, 1) := by decide +kernel
theorem dX7_counted_18 : decode cX7_counted 18 = .ok (.iadd, 1) := by decide +kernel
theorem dX7_counted_19 : decode cX7_counted 19 = .ok (.istore_n 2, 1) := by decide +kernel
theorem dX7_counted_20 : decode cX7_counted 20 = .ok (.iload_n 3, 1) := by decide +kernel
theorem dX7_counted_21 : decode cX7_counted 21 = .ok (.iload_n 1, 1) := by decide +kernel
theorem dX7_counted_22 : decode cX7_counted 22 = .ok (.iadd, 1) := by decide +kernel
theorem dX7_counted_23 : decode cX7_counted 23 = .ok (.istore_n 3, 1) := by decide +kernel
theorem dX7_counted_24 : decode cX7_counted 24 = .ok (.goto (-20), 3) := by decide +kernel
theorem dX7_counted_27 : decode cX7_counted 27 = .ok (.iload_n 1, 1) := by decide +kernel
theorem dX7_counted_28 : decode cX7_counted 28 = .ok (.iload_n 2, 1) := by decide +kernel
theorem dX7_counted_29 : decode cX7_counted 29 = .ok (.imul, 1) := by decide +kernel
theorem dX7_counted_30 : decode cX7_counted 30 = .ok (.ireturn, 1) := by decide +kernel
theorem dX7_rounds_0 : decode cX7_rounds 0 = .ok (.iload_n 1, 1) := by decide +kernel
theorem dX7_rounds_1 : decode cX7_rounds 1 = .ok (.invokestatic 183, 3) := by decide +kernel
theorem dX7_rounds_4 : decode cX7_rounds 4 = .ok (.ifCond .eq 15, 3) := by decide +kernel
theorem dX7_rounds_7 : decode cX7_rounds 7 = .ok (.iload_n 2, 1) := by decide +kernel
theorem dX7_rounds_8 : decode cX7_rounds 8 = .ok (.i2l, 1) := by decide +kernel
theorem dX7_rounds_9 : decode cX7_rounds 9 = .ok (.lconst 1, 1) := by decide +kernel
theorem dX7_rounds_10 : decode cX7_rounds 10 = .ok (.ldc2_w 200, 3) := by decide +kernel
theorem dX7_rounds_13 : decode cX7_rounds 13 = .ok (.invokestatic 80, 3) := by decide +kernel
theorem dX7_rounds_16 : decode cX7_rounds 16 = .ok (.ifCond .ne 5, 3) := by decide +kernel
theorem dX7_rounds_19 : decode cX7_rounds 19 = .ok (.iconst (-1), 1) := by decide +kernel
theorem dX7_rounds_20 : decode cX7_rounds 20 = .ok (.ireturn, 1) := by decide +kernel
theorem dX7_rounds_21 : decode cX7_rounds 21 = .ok (.aload_n 0, 1) := by decide +kernel
theorem dX7_rounds_22 : decode cX7_rounds 22 = .ok (.iload_n 1, 1) := by decide +kernel
theorem dX7_rounds_23 : decode cX7_rounds 23 = .ok (.invokevirtual 191, 3) := by decide +kernel
theorem dX7_rounds_26 : decode cX7_rounds 26 = .ok (.aload_n 0, 1) := by decide +kernel
theorem dX7_rounds_27 : decode cX7_rounds 27 = .ok (.iload_n 2, 1) := by decide +kernel
theorem dX7_rounds_28 : decode cX7_rounds 28 = .ok (.invokevirtual 202, 3) := by decide +kernel
theorem dX7_rounds_31 : decode cX7_rounds 31 = .ok (.ireturn, 1) := by decide +kernel
theorem dX7_often_0 : decode cX7_often 0 = .ok (.iload_n 1, 1) := by decide +kernel
theorem dX7_often_1 : decode cX7_often 1 = .ok (.invokestatic 183, 3) := by decide +kernel
theorem dX7_often_4 : decode cX7_often 4 = .ok (.ifCond .eq 15, 3) := by decide +kernel
theorem dX7_often_7 : decode cX7_often 7 = .ok (.iload_n 2, 1) := by decide +kernel
theorem dX7_often_8 : decode cX7_often 8 = .ok (.i2l, 1) := by decide +kernel
theorem dX7_often_9 : decode cX7_often 9 = .ok (.lconst 0, 1) := by decide +kernel
theorem dX7_often_10 : decode cX7_often 10 = .ok (.ldc2_w 205, 3) := by decide +kernel
theorem dX7_often_13 : decode cX7_often 13 = .ok (.invokestatic 80, 3) := by decide +kernel
theorem dX7_often_16 : decode cX7_often 16 = .ok (.ifCond .ne 5, 3) := by decide +kernel
theorem dX7_often_19 : decode cX7_often 19 = .ok (.iconst (-1), 1) := by decide +kernel
theorem dX7_often_20 : decode cX7_often 20 = .ok (.ireturn, 1) := by decide +kernel
theorem dX7_often_21 : decode cX7_often 21 = .ok (.aload_n 0, 1) := by decide +kernel
theorem dX7_often_22 : decode cX7_often 22 = .ok (.iload_n 1, 1) := by decide +kernel
theorem dX7_often_23 : decode cX7_often 23 = .ok (.invokevirtual 191, 3) := by decide +kernel
theorem dX7_often_26 : decode cX7_often 26 = .ok (.bipush (-4), 2) := by decide +kernel
theorem dX7_often_28 : decode cX7_often 28 = .ok (.istore_n 3, 1) := by decide +kernel
theorem dX7_often_29 : decode cX7_often 29 = .ok (.iconst 1, 1) := by decide +kernel
theorem dX7_often_30 : decode cX7_often 30 = .ok (.istore 4, 2) := by decide +kernel
theorem dX7_often_32 : decode cX7_often 32 = .ok (.iload 4, 2) := by decide +kernel
theorem dX7_often_34 : decode cX7_often 34 = .ok (.bipush 100, 2) := by decide +kernel
theorem dX7_often_36 : decode cX7_often 36 = .ok (.if_icmp .ge 39, 3) := by decide +kernel
theorem dX7_often_39 : decode cX7_often 39 = .ok (.aload_n 0, 1) := by decide +kernel
theorem dX7_often_40 : decode cX7_often 40 = .ok (.iload 4, 2) := by decide +kernel
theorem dX7_often_42 : decode cX7_often 42 = .ok (.invokevirtual 202, 3) := by decide +kernel
theorem dX7_often_45 : decode cX7_often 45 = .ok (.aload_n 0, 1) := by decide +kernel
theorem dX7_often_46 : decode cX7_often 46 = .ok (.getfield 170, 3) := by decide +kernel
theorem dX7_often_49 : decode cX7_often 49 = .ok (.isub, 1) := by decide +kernel
theorem dX7_often_50 : decode cX7_often 50 = .ok (.i2l, 1) := by decide +kernel
theorem dX7_often_51 : decode cX7_often 51 = .ok (.iload_n 2, 1) := by decide +kernel
theorem dX7_often_52 : decode cX7_often 52 = .ok (.ineg, 1) := by decide +kernel
theorem dX7_often_53 : decode cX7_often 53 = .ok (.i2l, 1) := by decide +kernel
theorem dX7_often_54 : decode cX7_often 54 = .ok (.iload_n 2, 1) := by decide +kernel
theorem dX7_often_55 : decode cX7_often 55 = .ok (.i2l, 1) := by decide +kernel
theorem dX7_often_56 : decode cX7_often 56 = .ok (.invokestatic 80, 3) := by decide +kernel
theorem dX7_often_59 : decode cX7_often 59 = .ok (.ifCond .eq 8, 3) := by decide +kernel
theorem dX7_often_62 : decode cX7_often 62 = .ok (.iload 4, 2) := by decide +kernel
theorem dX7_often_64 : decode cX7_often 64 = .ok (.goto 4, 3) := by decide +kernel
theorem dX7_often_67 : decode cX7_often 67 = .ok (.iload_n 3, 1) := by decide +kernel
theorem dX7_often_68 : decode cX7_often 68 = .ok (.istore_n 3, 1) := by decide +kernel
theorem dX7_often_69 : decode cX7_often 69 = .ok (.iinc 4 1, 3) := by decide +kernel
theorem dX7_often_72 : decode cX7_often 72 = .ok (.goto (-40), 3) := by decide +kernel
theorem dX7_often_75 : decode cX7_often 75 = .ok (.iload_n 3, 1) := by decide +kernel
theorem dX7_often_76 : decode cX7_often 76 = .ok (.ireturn, 1) := by decide +kernel
theorem dX7_porter_0 : decode cX7_porter 0 = .ok (.iload_n 1, 1) := by decide +kernel
theorem dX7_porter_1 : decode cX7_porter 1 = .ok (.i2l, 1) := by decide +kernel
theorem dX7_porter_2 : decode cX7_porter 2 = .ok (.lconst 0, 1) := by decide +kernel
theorem dX7_porter_3 : decode cX7_porter 3 = .ok (.ldc2_w 78, 3) := by decide +kernel
theorem dX7_porter_6 : decode cX7_porter 6 = .ok (.invokestatic 80, 3) := by decide +kernel
theorem dX7_porter_9 : decode cX7_porter 9 = .ok (.ifCond .ne 5, 3) := by decide +kernel
theorem dX7_porter_12 : decode cX7_porter 12 = .ok (.iconst (-1), 1) := by decide +kernel
theorem dX7_porter_13 : decode cX7_porter 13 = .ok (.ireturn, 1) := by decide +kernel
theorem dX7_porter_14 : decode cX7_porter 14 = .ok (.bipush 99, 2) := by decide +kernel
theorem dX7_porter_16 : decode cX7_porter 16 = .ok (.istore_n 2, 1) := by decide +kernel
theorem dX7_porter_17 : decode cX7_porter 17 = .ok (.iload_n 2, 1) := by decide +kernel
theorem dX7_porter_18 : decode cX7_porter 18 = .ok (.ifCond .le 41, 3) := by decide +kernel
theorem dX7_porter_21 : decode cX7_porter 21 = .ok (.aload_n 0, 1) := by decide +kernel
theorem dX7_porter_22 : decode cX7_porter 22 = .ok (.iconst 2, 1) := by decide +kernel
theorem dX7_porter_23 : decode cX7_porter 23 = .ok (.aload_n 0, 1) := by decide +kernel
theorem dX7_porter_24 : decode cX7_porter 24 = .ok (.getfield 113, 3) := by decide +kernel
theorem dX7_porter_27 : decode cX7_porter 27 = .ok (.sipush 399, 3) := by decide +kernel
theorem dX7_porter_30 : decode cX7_porter 30 = .ok (.aload_n 0, 1) := by decide +kernel
theorem dX7_porter_31 : decode cX7_porter 31 = .ok (.getfield 26, 3) := by decide +kernel
theorem dX7_porter_34 : decode cX7_porter 34 = .ok (.iconst 0, 1) := by decide +kernel
theorem dX7_porter_35 : decode cX7_porter 35 = .ok (.iaload, 1) := by decide +kernel
theorem dX7_porter_36 : decode cX7_porter 36 = .ok (.iload_n 2, 1) := by decide +kernel
theorem dX7_porter_37 : decode cX7_porter 37 = .ok (.invokevirtual 180, 3) := by decide +kernel
theorem dX7_porter_40 : decode cX7_porter 40 = .ok (.aload_n 0, 1) := by decide +kernel
theorem dX7_porter_41 : decode cX7_porter 41 = .ok (.getfield 149, 3) := by decide +kernel
theorem dX7_porter_44 : decode cX7_porter 44 = .ok (.invokestatic 195, 3) := by decide +kernel
theorem dX7_porter_47 : decode cX7_porter 47 = .ok (.iload_n 1, 1) := by decide +kernel
theorem dX7_porter_48 : decode cX7_porter 48 = .ok (.if_icmp .gt 5, 3) := by decide +kernel
theorem dX7_porter_51 : decode cX7_porter 51 = .ok (.iload_n 2, 1) := by decide +kernel
theorem dX7_porter_52 : decode cX7_porter 52 = .ok (.ireturn, 1) := by decide +kernel
theorem dX7_porter_53 : decode cX7_porter 53 = .ok (.iinc 2 (-1), 3) := by decide +kernel
theorem dX7_porter_56 : decode cX7_porter 56 = .ok (.goto (-39), 3) := by decide +kernel
theorem dX7_porter_59 : decode cX7_porter 59 = .ok (.bipush (-4), 2) := by decide +kernel
theorem dX7_porter_61 : decode cX7_porter 61 = .ok (.ireturn, 1) := by decide +kernel
theorem dX7_card_0 : decode cX7_card 0 = .ok (.iload_n 1, 1) := by decide +kernel
theorem dX7_card_1 : decode cX7_card 1 = .ok (.i2l, 1) := by decide +kernel
theorem dX7_card_2 : decode cX7_card 2 = .ok (.lconst 0, 1) := by decide +kernel
theorem dX7_card_3 : decode cX7_card 3 = .ok (.ldc2_w 78, 3) := by decide +kernel
theorem dX7_card_6 : decode cX7_card 6 = .ok (.invokestatic 80, 3) := by decide +kernel
theorem dX7_card_9 : decode cX7_card 9 = .ok (.ifCond .ne 5, 3) := by decide +kernel
theorem dX7_card_12 : decode cX7_card 12 = .ok (.iconst (-1), 1) := by decide +kernel
theorem dX7_card_13 : decode cX7_card 13 = .ok (.ireturn, 1) := by decide +kernel
theorem dX7_card_14 : decode cX7_card 14 = .ok (.bipush 99, 2) := by decide +kernel
theorem dX7_card_16 : decode cX7_card 16 = .ok (.istore_n 2, 1) := by decide +kernel
theorem dX7_card_17 : decode cX7_card 17 = .ok (.iload_n 2, 1) := by decide +kernel
theorem dX7_card_18 : decode cX7_card 18 = .ok (.ifCond .le 41, 3) := by decide +kernel
theorem dX7_card_21 : decode cX7_card 21 = .ok (.aload_n 0, 1) := by decide +kernel
theorem dX7_card_22 : decode cX7_card 22 = .ok (.iconst 2, 1) := by decide +kernel
theorem dX7_card_23 : decode cX7_card 23 = .ok (.aload_n 0, 1) := by decide +kernel
theorem dX7_card_24 : decode cX7_card 24 = .ok (.getfield 113, 3) := by decide +kernel
theorem dX7_card_27 : decode cX7_card 27 = .ok (.sipush 399, 3) := by decide +kernel
theorem dX7_card_30 : decode cX7_card 30 = .ok (.iload_n 2, 1) := by decide +kernel
theorem dX7_card_31 : decode cX7_card 31 = .ok (.aload_n 0, 1) := by decide +kernel
theorem dX7_card_32 : decode cX7_card 32 = .ok (.getfield 26, 3) := by decide +kernel
theorem dX7_card_35 : decode cX7_card 35 = .ok (.iconst 1, 1) := by decide +kernel
theorem dX7_card_36 : decode cX7_card 36 = .ok (.iaload, 1) := by decide +kernel
theorem dX7_card_37 : decode cX7_card 37 = .ok (.invokevirtual 180, 3) := by decide +kernel
theorem dX7_card_40 : decode cX7_card 40 = .ok (.aload_n 0, 1) := by decide +kernel
theorem dX7_card_41 : decode cX7_card 41 = .ok (.getfield 149, 3) := by decide +kernel
theorem dX7_card_44 : decode cX7_card 44 = .ok (.invokestatic 195, 3) := by decide +kernel
theorem dX7_card_47 : decode cX7_card 47 = .ok (.iload_n 1, 1) := by decide +kernel
theorem dX7_card_48 : decode cX7_card 48 = .ok (.if_icmp .gt 5, 3) := by decide +kernel
theorem dX7_card_51 : decode cX7_card 51 = .ok (.iload_n 2, 1) := by decide +kernel
theorem dX7_card_52 : decode cX7_card 52 = .ok (.ireturn, 1) := by decide +kernel
theorem dX7_card_53 : decode cX7_card 53 = .ok (.iinc 2 (-1), 3) := by decide +kernel
theorem dX7_card_56 : decode cX7_card 56 = .ok (.goto (-39), 3) := by decide +kernel
theorem dX7_card_59 : decode cX7_card 59 = .ok (.bipush (-4), 2) := by decide +kernel
theorem dX7_card_61 : decode cX7_card 61 = .ok (.ireturn, 1) := by decide +kernel
theorem dX7_power_0 : decode cX7_power 0 = .ok (.lconst 1, 1) := by decide +kernel
theorem dX7_power_1 : decode cX7_power 1 = .ok (.lstore_n 2, 1) := by decide +kernel
theorem dX7_power_2 : decode cX7_power 2 = .ok (.iconst 0, 1) := by decide +kernel
theorem dX7_power_3 : decode cX7_power 3 = .ok (.istore 4, 2) := by decide +kernel
theorem dX7_power_5 : decode cX7_power 5 = .ok (.iload 4, 2) := by decide +kernel
theorem dX7_power_7 : decode cX7_power 7 = .ok (.iload_n 1, 1) := by decide +kernel
theorem dX7_power_8 : decode cX7_power 8 = .ok (.if_icmp .ge 14, 3) := by decide +kernel
theorem dX7_power_11 : decode cX7_power 11 = .ok (.lload_n 2, 1) := by decide +kernel
theorem dX7_power_12 : decode cX7_power 12 = .ok (.iload_n 0, 1) := by decide +kernel
theorem dX7_power_13 : decode cX7_power 13 = .ok (.i2l, 1) := by decide +kernel
theorem dX7_power_14 : decode cX7_power 14 = .ok (.lmul, 1) := by decide +kernel
theorem dX7_power_15 : decode cX7_power 15 = .ok (.lstore_n 2, 1) := by decide +kernel
theorem dX7_power_16 : decode cX7_power 16 = .ok (.iinc 4 1, 3) := by decide +kernel
theorem dX7_power_19 : decode cX7_power 19 = .ok (.goto (-14), 3) := by decide +kernel
theorem dX7_power_22 : decode cX7_power 22 = .ok (.lload_n 2, 1) := by decide +kernel
theorem dX7_power_23 : decode cX7_power 23 = .ok (.lreturn, 1) := by decide +kernel
theorem dX7_come_0 : decode cX7_come 0 = .ok (.lconst 0, 1) := by decide +kernel
theorem dX7_come_1 : decode cX7_come 1 = .ok (.lstore_n 3, 1) := by decide +kernel
theorem dX7_come_2 : decode cX7_come 2 = .ok (.lconst 1, 1) := by decide +kernel
theorem dX7_come_3 : decode cX7_come 3 = .ok (.lstore 5, 2) := by decide +kernel
theorem dX7_come_5 : decode cX7_come 5 = .ok (.iconst 0, 1) := by decide +kernel
theorem dX7_come_6 : decode cX7_come 6 = .ok (.istore 7, 2) := by decide +kernel
theorem dX7_come_8 : decode cX7_come 8 = .ok (.iload 7, 2) := by decide +kernel
theorem dX7_come_10 : decode cX7_come 10 = .ok (.iload_n 0, 1) := by decide +kernel
theorem dX7_come_11 : decode cX7_come 11 = .ok (.if_icmp .gt 59, 3) := by decide +kernel
theorem dX7_come_14 : decode cX7_come 14 = .ok (.lload_n 3, 1) := by decide +kernel
theorem dX7_come_15 : decode cX7_come 15 = .ok (.iload 7, 2) := by decide +kernel
theorem dX7_come_17 : decode cX7_come 17 = .ok (.iload_n 1, 1) := by decide +kernel
theorem dX7_come_18 : decode cX7_come 18 = .ok (.if_icmp .gt 27, 3) := by decide +kernel
theorem dX7_come_21 : decode cX7_come 21 = .ok (.lload 5, 2) := by decide +kernel
theorem dX7_come_23 : decode cX7_come 23 = .ok (.iload_n 2, 1) := by decide +kernel
theorem dX7_come_24 : decode cX7_come 24 = .ok (.iload 7, 2) := by decide +kernel
theorem dX7_come_26 : decode cX7_come 26 = .ok (.invokestatic 207, 3) := by decide +kernel
theorem dX7_come_29 : decode cX7_come 29 = .ok (.lmul, 1) := by decide +kernel
theorem dX7_come_30 : decode cX7_come 30 = .ok (.bipush 10, 2) := by decide +kernel
theorem dX7_come_32 : decode cX7_come 32 = .ok (.iload_n 2, 1) := by decide +kernel
theorem dX7_come_33 : decode cX7_come 33 = .ok (.isub, 1) := by decide +kernel
theorem dX7_come_34 : decode cX7_come 34 = .ok (.iload_n 0, 1) := by decide +kernel
theorem dX7_come_35 : decode cX7_come 35 = .ok (.iload 7, 2) := by decide +kernel
theorem dX7_come_37 : decode cX7_come 37 = .ok (.isub, 1) := by decide +kernel
theorem dX7_come_38 : decode cX7_come 38 = .ok (.invokestatic 207, 3) := by decide +kernel
theorem dX7_come_41 : decode cX7_come 41 = .ok (.lmul, 1) := by decide +kernel
theorem dX7_come_42 : decode cX7_come 42 = .ok (.goto 4, 3) := by decide +kernel
theorem dX7_come_45 : decode cX7_come 45 = .ok (.lconst 0, 1) := by decide +kernel
theorem dX7_come_46 : decode cX7_come 46 = .ok (.ladd, 1) := by decide +kernel
theorem dX7_come_47 : decode cX7_come 47 = .ok (.lstore_n 3, 1) := by decide +kernel
theorem dX7_come_48 : decode cX7_come 48 = .ok (.lload 5, 2) := by decide +kernel
theorem dX7_come_50 : decode cX7_come 50 = .ok (.iload_n 0, 1) := by decide +kernel
theorem dX7_come_51 : decode cX7_come 51 = .ok (.iload 7, 2) := by decide +kernel
theorem dX7_come_53 : decode cX7_come 53 = .ok (.isub, 1) := by decide +kernel
theorem dX7_come_54 : decode cX7_come 54 = .ok (.i2l, 1) := by decide +kernel
theorem dX7_come_55 : decode cX7_come 55 = .ok (.lmul, 1) := by decide +kernel
theorem dX7_come_56 : decode cX7_come 56 = .ok (.iload 7, 2) := by decide +kernel
theorem dX7_come_58 : decode cX7_come 58 = .ok (.iconst 1, 1) := by decide +kernel
theorem dX7_come_59 : decode cX7_come 59 = .ok (.iadd, 1) := by decide +kernel
theorem dX7_come_60 : decode cX7_come 60 = .ok (.i2l, 1) := by decide +kernel
theorem dX7_come_61 : decode cX7_come 61 = .ok (.ldiv, 1) := by decide +kernel
theorem dX7_come_62 : decode cX7_come 62 = .ok (.lstore 5, 2) := by decide +kernel
theorem dX7_come_64 : decode cX7_come 64 = .ok (.iinc 7 1, 3) := by decide +kernel
theorem dX7_come_67 : decode cX7_come 67 = .ok (.goto (-59), 3) := by decide +kernel
theorem dX7_come_70 : decode cX7_come 70 = .ok (.lload_n 3, 1) := by decide +kernel
theorem dX7_come_71 : decode cX7_come 71 = .ok (.lreturn, 1) := by decide +kernel
theorem dX7_lowest_0 : decode cX7_lowest 0 = .ok (.lload_n 1, 1) := by decide +kernel
theorem dX7_lowest_1 : decode cX7_lowest 1 = .ok (.lstore 5, 2) := by decide +kernel
theorem dX7_lowest_3 : decode cX7_lowest 3 = .ok (.lload_n 3, 1) := by decide +kernel
theorem dX7_lowest_4 : decode cX7_lowest 4 = .ok (.lstore 7, 2) := by decide +kernel
theorem dX7_lowest_6 : decode cX7_lowest 6 = .ok (.lload 7, 2) := by decide +kernel
theorem dX7_lowest_8 : decode cX7_lowest 8 = .ok (.lconst 0, 1) := by decide +kernel
theorem dX7_lowest_9 : decode cX7_lowest 9 = .ok (.lcmp, 1) := by decide +kernel
theorem dX7_lowest_10 : decode cX7_lowest 10 = .ok (.ifCond .eq 21, 3) := by decide +kernel
theorem dX7_lowest_13 : decode cX7_lowest 13 = .ok (.lload 5, 2) := by decide +kernel
theorem dX7_lowest_15 : decode cX7_lowest 15 = .ok (.lload 7, 2) := by decide +kernel
theorem dX7_lowest_17 : decode cX7_lowest 17 = .ok (.lrem, 1) := by decide +kernel
theorem dX7_lowest_18 : decode cX7_lowest 18 = .ok (.lstore 9, 2) := by decide +kernel
theorem dX7_lowest_20 : decode cX7_lowest 20 = .ok (.lload 7, 2) := by decide +kernel
theorem dX7_lowest_22 : decode cX7_lowest 22 = .ok (.lstore 5, 2) := by decide +kernel
theorem dX7_lowest_24 : decode cX7_lowest 24 = .ok (.lload 9, 2) := by decide +kernel
theorem dX7_lowest_26 : decode cX7_lowest 26 = .ok (.lstore 7, 2) := by decide +kernel
theorem dX7_lowest_28 : decode cX7_lowest 28 = .ok (.goto (-22), 3) := by decide +kernel
theorem dX7_lowest_31 : decode cX7_lowest 31 = .ok (.aload_n 0, 1) := by decide +kernel
theorem dX7_lowest_32 : decode cX7_lowest 32 = .ok (.lload_n 1, 1) := by decide +kernel
theorem dX7_lowest_33 : decode cX7_lowest 33 = .ok (.lload 5, 2) := by decide +kernel
theorem dX7_lowest_35 : decode cX7_lowest 35 = .ok (.ldiv, 1) := by decide +kernel
theorem dX7_lowest_36 : decode cX7_lowest 36 = .ok (.putfield 211, 3) := by decide +kernel
theorem dX7_lowest_39 : decode cX7_lowest 39 = .ok (.aload_n 0, 1) := by decide +kernel
theorem dX7_lowest_40 : decode cX7_lowest 40 = .ok (.lload_n 3, 1) := by decide +kernel
theorem dX7_lowest_41 : decode cX7_lowest 41 = .ok (.lload 5, 2) := by decide +kernel
theorem dX7_lowest_43 : decode cX7_lowest 43 = .ok (.ldiv, 1) := by decide +kernel
theorem dX7_lowest_44 : decode cX7_lowest 44 = .ok (.putfield 215, 3) := by decide +kernel
theorem dX7_lowest_47 : decode cX7_lowest 47 = .ok (.return_, 1) := by decide +kernel
theorem dX7_booked_0 : decode cX7_booked 0 = .ok (.iload_n 1, 1) := by decide +kernel
theorem dX7_booked_1 : decode cX7_booked 1 = .ok (.i2l, 1) := by decide +kernel
theorem dX7_booked_2 : decode cX7_booked 2 = .ok (.lconst 1, 1) := by decide +kernel
theorem dX7_booked_3 : decode cX7_booked 3 = .ok (.ldc2_w 218, 3) := by decide +kernel
theorem dX7_booked_6 : decode cX7_booked 6 = .ok (.invokestatic 80, 3) := by decide +kernel
theorem dX7_booked_9 : decode cX7_booked 9 = .ok (.ifCond .eq 38, 3) := by decide +kernel
theorem dX7_booked_12 : decode cX7_booked 12 = .ok (.iload_n 2, 1) := by decide +kernel
theorem dX7_booked_13 : decode cX7_booked 13 = .ok (.i2l, 1) := by decide +kernel
theorem dX7_booked_14 : decode cX7_booked 14 = .ok (.lconst 1, 1) := by decide +kernel
theorem dX7_booked_15 : decode cX7_booked 15 = .ok (.ldc2_w 218, 3) := by decide +kernel
theorem dX7_booked_18 : decode cX7_booked 18 = .ok (.invokestatic 80, 3) := by decide +kernel
theorem dX7_booked_21 : decode cX7_booked 21 = .ok (.ifCond .eq 26, 3) := by decide +kernel
theorem dX7_booked_24 : decode cX7_booked 24 = .ok (.iload_n 3, 1) := by decide +kernel
theorem dX7_booked_25 : decode cX7_booked 25 = .ok (.i2l, 1) := by decide +kernel
theorem dX7_booked_26 : decode cX7_booked 26 = .ok (.lconst 0, 1) := by decide +kernel
theorem dX7_booked_27 : decode cX7_booked 27 = .ok (.ldc2_w 220, 3) := by decide +kernel
theorem dX7_booked_30 : decode cX7_booked 30 = .ok (.invokestatic 80, 3) := by decide +kernel
theorem dX7_booked_33 : decode cX7_booked 33 = .ok (.ifCond .eq 14, 3) := by decide +kernel
theorem dX7_booked_36 : decode cX7_booked 36 = .ok (.iload 4, 2) := by decide +kernel
theorem dX7_booked_38 : decode cX7_booked 38 = .ok (.i2l, 1) := by decide +kernel
theorem dX7_booked_39 : decode cX7_booked 39 = .ok (.lconst 0, 1) := by decide +kernel
theorem dX7_booked_40 : decode cX7_booked 40 = .ok (.lconst 1, 1) := by decide +kernel
theorem dX7_booked_41 : decode cX7_booked 41 = .ok (.invokestatic 80, 3) := by decide +kernel
theorem dX7_booked_44 : decode cX7_booked 44 = .ok (.ifCond .ne 7, 3) := by decide +kernel
theorem dX7_booked_47 : decode cX7_booked 47 = .ok (.ldc2_w 222, 3) := by decide +kernel
theorem dX7_booked_50 : decode cX7_booked 50 = .ok (.lreturn, 1) := by decide +kernel
theorem dX7_booked_51 : decode cX7_booked 51 = .ok (.aload_n 0, 1) := by decide +kernel
theorem dX7_booked_52 : decode cX7_booked 52 = .ok (.iload_n 1, 1) := by decide +kernel
theorem dX7_booked_53 : decode cX7_booked 53 = .ok (.iload_n 2, 1) := by decide +kernel
theorem dX7_booked_54 : decode cX7_booked 54 = .ok (.iload_n 3, 1) := by decide +kernel
theorem dX7_booked_55 : decode cX7_booked 55 = .ok (.invokestatic 224, 3) := by decide +kernel
theorem dX7_booked_58 : decode cX7_booked 58 = .ok (.bipush 10, 2) := by decide +kernel
theorem dX7_booked_60 : decode cX7_booked 60 = .ok (.iload_n 1, 1) := by decide +kernel
theorem dX7_booked_61 : decode cX7_booked 61 = .ok (.invokestatic 207, 3) := by decide +kernel
theorem dX7_booked_64 : decode cX7_booked 64 = .ok (.invokevirtual 228, 3) := by decide +kernel
theorem dX7_booked_67 : decode cX7_booked 67 = .ok (.iload 4, 2) := by decide +kernel
theorem dX7_booked_69 : decode cX7_booked 69 = .ok (.ifCond .ne 10, 3) := by decide +kernel
theorem dX7_booked_72 : decode cX7_booked 72 = .ok (.aload_n 0, 1) := by decide +kernel
theorem dX7_booked_73 : decode cX7_booked 73 = .ok (.getfield 211, 3) := by decide +kernel
theorem dX7_booked_76 : decode cX7_booked 76 = .ok (.goto 7, 3) := by decide +kernel
theorem dX7_booked_79 : decode cX7_booked 79 = .ok (.aload_n 0, 1) := by decide +kernel
theorem dX7_booked_80 : decode cX7_booked 80 = .ok (.getfield 215, 3) := by decide +kernel
theorem dX7_booked_83 : decode cX7_booked 83 = .ok (.lreturn, 1) := by decide +kernel
theorem dX7_over_0 : decode cX7_over 0 = .ok (.iload_n 1, 1) := by decide +kernel
theorem dX7_over_1 : decode cX7_over 1 = .ok (.i2l, 1) := by decide +kernel
theorem dX7_over_2 : decode cX7_over 2 = .ok (.lconst 1, 1) := by decide +kernel
theorem dX7_over_3 : decode cX7_over 3 = .ok (.ldc2_w 218, 3) := by decide +kernel
theorem dX7_over_6 : decode cX7_over 6 = .ok (.invokestatic 80, 3) := by decide +kernel
theorem dX7_over_9 : decode cX7_over 9 = .ok (.ifCond .eq 27, 3) := by decide +kernel
theorem dX7_over_12 : decode cX7_over 12 = .ok (.iload_n 2, 1) := by decide +kernel
theorem dX7_over_13 : decode cX7_over 13 = .ok (.i2l, 1) := by decide +kernel
theorem dX7_over_14 : decode cX7_over 14 = .ok (.lconst 0, 1) := by decide +kernel
theorem dX7_over_15 : decode cX7_over 15 = .ok (.ldc2_w 220, 3) := by decide +kernel
theorem dX7_over_18 : decode cX7_over 18 = .ok (.invokestatic 80, 3) := by decide +kernel
theorem dX7_over_21 : decode cX7_over 21 = .ok (.ifCond .eq 15, 3) := by decide +kernel
theorem dX7_over_24 : decode cX7_over 24 = .ok (.iload_n 3, 1) := by decide +kernel
theorem dX7_over_25 : decode cX7_over 25 = .ok (.i2l, 1) := by decide +kernel
theorem dX7_over_26 : decode cX7_over 26 = .ok (.lconst 0, 1) := by decide +kernel
theorem dX7_over_27 : decode cX7_over 27 = .ok (.ldc2_w 232, 3) := by decide +kernel
theorem dX7_over_30 : decode cX7_over 30 = .ok (.invokestatic 80, 3) := by decide +kernel
theorem dX7_over_33 : decode cX7_over 33 = .ok (.ifCond .ne 5, 3) := by decide +kernel
theorem dX7_over_36 : decode cX7_over 36 = .ok (.iconst (-1), 1) := by decide +kernel
theorem dX7_over_37 : decode cX7_over 37 = .ok (.ireturn, 1) := by decide +kernel
theorem dX7_over_38 : decode cX7_over 38 = .ok (.iload_n 1, 1) := by decide +kernel
theorem dX7_over_39 : decode cX7_over 39 = .ok (.istore 4, 2) := by decide +kernel
theorem dX7_over_41 : decode cX7_over 41 = .ok (.iload_n 1, 1) := by decide +kernel
theorem dX7_over_42 : decode cX7_over 42 = .ok (.istore 5, 2) := by decide +kernel
theorem dX7_over_44 : decode cX7_over 44 = .ok (.iload 5, 2) := by decide +kernel
theorem dX7_over_46 : decode cX7_over 46 = .ok (.bipush 15, 2) := by decide +kernel
theorem dX7_over_48 : decode cX7_over 48 = .ok (.if_icmp .ge 43, 3) := by decide +kernel
theorem dX7_over_51 : decode cX7_over 51 = .ok (.ldc2_w 232, 3) := by decide +kernel
theorem dX7_over_54 : decode cX7_over 54 = .ok (.iload 5, 2) := by decide +kernel
theorem dX7_over_56 : decode cX7_over 56 = .ok (.iload_n 1, 1) := by decide +kernel
theorem dX7_over_57 : decode cX7_over 57 = .ok (.iload_n 2, 1) := by decide +kernel
theorem dX7_over_58 : decode cX7_over 58 = .ok (.invokestatic 224, 3) := by decide +kernel
theorem dX7_over_61 : decode cX7_over 61 = .ok (.lmul, 1) := by decide +kernel
theorem dX7_over_62 : decode cX7_over 62 = .ok (.iload_n 3, 1) := by decide +kernel
theorem dX7_over_63 : decode cX7_over 63 = .ok (.i2l, 1) := by decide +kernel
theorem dX7_over_64 : decode cX7_over 64 = .ok (.bipush 10, 2) := by decide +kernel
theorem dX7_over_66 : decode cX7_over 66 = .ok (.iload 5, 2) := by decide +kernel
theorem dX7_over_68 : decode cX7_over 68 = .ok (.invokestatic 207, 3) := by decide +kernel
theorem dX7_over_71 : decode cX7_over 71 = .ok (.lmul, 1) := by decide +kernel
theorem dX7_over_72 : decode cX7_over 72 = .ok (.lcmp, 1) := by decide +kernel
theorem dX7_over_73 : decode cX7_over 73 = .ok (.ifCond .lt 8, 3) := by decide +kernel
theorem dX7_over_76 : decode cX7_over 76 = .ok (.iload 5, 2) := by decide +kernel
theorem dX7_over_78 : decode cX7_over 78 = .ok (.goto 5, 3) := by decide +kernel
theorem dX7_over_81 : decode cX7_over 81 = .ok (.iload 4, 2) := by decide +kernel
theorem dX7_over_83 : decode cX7_over 83 = .ok (.istore 4, 2) := by decide +kernel
theorem dX7_over_85 : decode cX7_over 85 = .ok (.iinc 5 1, 3) := by decide +kernel
theorem dX7_over_88 : decode cX7_over 88 = .ok (.goto (-44), 3) := by decide +kernel
theorem dX7_over_91 : decode cX7_over 91 = .ok (.iload 4, 2) := by decide +kernel
theorem dX7_over_93 : decode cX7_over 93 = .ok (.ireturn, 1) := by decide +kernel
theorem dX7_dare_0 : decode cX7_dare 0 = .ok (.iload_n 1, 1) := by decide +kernel
theorem dX7_dare_1 : decode cX7_dare 1 = .ok (.i2l, 1) := by decide +kernel
theorem dX7_dare_2 : decode cX7_dare 2 = .ok (.lconst 0, 1) := by decide +kernel
theorem dX7_dare_3 : decode cX7_dare 3 = .ok (.ldc2_w 234, 3) := by decide +kernel
theorem dX7_dare_6 : decode cX7_dare 6 = .ok (.invokestatic 80, 3) := by decide +kernel
theorem dX7_dare_9 : decode cX7_dare 9 = .ok (.ifCond .eq 25, 3) := by decide +kernel
theorem dX7_dare_12 : decode cX7_dare 12 = .ok (.iload_n 2, 1) := by decide +kernel
theorem dX7_dare_13 : decode cX7_dare 13 = .ok (.i2l, 1) := by decide +kernel
theorem dX7_dare_14 : decode cX7_dare 14 = .ok (.lconst 1, 1) := by decide +kernel
theorem dX7_dare_15 : decode cX7_dare 15 = .ok (.ldc2_w 200, 3) := by decide +kernel
theorem dX7_dare_18 : decode cX7_dare 18 = .ok (.invokestatic 80, 3) := by decide +kernel
theorem dX7_dare_21 : decode cX7_dare 21 = .ok (.ifCond .eq 13, 3) := by decide +kernel
theorem dX7_dare_24 : decode cX7_dare 24 = .ok (.iload_n 3, 1) := by decide +kernel
theorem dX7_dare_25 : decode cX7_dare 25 = .ok (.i2l, 1) := by decide +kernel
theorem dX7_dare_26 : decode cX7_dare 26 = .ok (.lconst 0, 1) := by decide +kernel
theorem dX7_dare_27 : decode cX7_dare 27 = .ok (.lconst 1, 1) := by decide +kernel
theorem dX7_dare_28 : decode cX7_dare 28 = .ok (.invokestatic 80, 3) := by decide +kernel
theorem dX7_dare_31 : decode cX7_dare 31 = .ok (.ifCond .ne 5, 3) := by decide +kernel
theorem dX7_dare_34 : decode cX7_dare 34 = .ok (.iconst (-1), 1) := by decide +kernel
theorem dX7_dare_35 : decode cX7_dare 35 = .ok (.ireturn, 1) := by decide +kernel
theorem dX7_dare_36 : decode cX7_dare 36 = .ok (.iconst 0, 1) := by decide +kernel
theorem dX7_dare_37 : decode cX7_dare 37 = .ok (.istore 4, 2) := by decide +kernel
theorem dX7_dare_39 : decode cX7_dare 39 = .ok (.iconst 0, 1) := by decide +kernel
theorem dX7_dare_40 : decode cX7_dare 40 = .ok (.istore 5, 2) := by decide +kernel
theorem dX7_dare_42 : decode cX7_dare 42 = .ok (.iconst 0, 1) := by decide +kernel
theorem dX7_dare_43 : decode cX7_dare 43 = .ok (.istore 6, 2) := by decide +kernel
theorem dX7_dare_45 : decode cX7_dare 45 = .ok (.iload 6, 2) := by decide +kernel
theorem dX7_dare_47 : decode cX7_dare 47 = .ok (.aload_n 0, 1) := by decide +kernel
theorem dX7_dare_48 : decode cX7_dare 48 = .ok (.getfield 17, 3) := by decide +kernel
theorem dX7_dare_51 : decode cX7_dare 51 = .ok (.iconst 0, 1) := by decide +kernel
theorem dX7_dare_52 : decode cX7_dare 52 = .ok (.iaload, 1) := by decide +kernel
theorem dX7_dare_53 : decode cX7_dare 53 = .ok (.if_icmp .ge 87, 3) := by decide +kernel
theorem dX7_dare_56 : decode cX7_dare 56 = .ok (.aload_n 0, 1) := by decide +kernel
theorem dX7_dare_57 : decode cX7_dare 57 = .ok (.iload 6, 2) := by decide +kernel
theorem dX7_dare_59 : decode cX7_dare 59 = .ok (.iconst 2, 1) := by decide +kernel
theorem dX7_dare_60 : decode cX7_dare 60 = .ok (.invokevirtual 135, 3) := by decide +kernel
theorem dX7_dare_63 : decode cX7_dare 63 = .ok (.aload_n 0, 1) := by decide +kernel
theorem dX7_dare_64 : decode cX7_dare 64 = .ok (.iload 6, 2) := by decide +kernel
theorem dX7_dare_66 : decode cX7_dare 66 = .ok (.iconst 1, 1) := by decide +kernel
theorem dX7_dare_67 : decode cX7_dare 67 = .ok (.invokevirtual 135, 3) := by decide +kernel
theorem dX7_dare_70 : decode cX7_dare 70 = .ok (.if_icmp .ge 18, 3) := by decide +kernel
theorem dX7_dare_73 : decode cX7_dare 73 = .ok (.aload_n 0, 1) := by decide +kernel
theorem dX7_dare_74 : decode cX7_dare 74 = .ok (.iload 6, 2) := by decide +kernel
theorem dX7_dare_76 : decode cX7_dare 76 = .ok (.iconst 3, 1) := by decide +kernel
theorem dX7_dare_77 : decode cX7_dare 77 = .ok (.invokevirtual 135, 3) := by decide +kernel
theorem dX7_dare_80 : decode cX7_dare 80 = .ok (.iload_n 1, 1) := by decide +kernel
theorem dX7_dare_81 : decode cX7_dare 81 = .ok (.if_icmp .le 7, 3) := by decide +kernel
theorem dX7_dare_84 : decode cX7_dare 84 = .ok (.iconst 1, 1) := by decide +kernel
theorem dX7_dare_85 : decode cX7_dare 85 = .ok (.goto 4, 3) := by decide +kernel
theorem dX7_dare_88 : decode cX7_dare 88 = .ok (.iconst 0, 1) := by decide +kernel
theorem dX7_dare_89 : decode cX7_dare 89 = .ok (.istore 7, 2) := by decide +kernel
theorem dX7_dare_91 : decode cX7_dare 91 = .ok (.iload 4, 2) := by decide +kernel
theorem dX7_dare_93 : decode cX7_dare 93 = .ok (.iload 7, 2) := by decide +kernel
theorem dX7_dare_95 : decode cX7_dare 95 = .ok (.ifCond .eq 7, 3) := by decide +kernel
theorem dX7_dare_98 : decode cX7_dare 98 = .ok (.iconst 1, 1) := by decide +kernel
theorem dX7_dare_99 : decode cX7_dare 99 = .ok (.goto 4, 3) := by decide +kernel
theorem dX7_dare_102 : decode cX7_dare 102 = .ok (.iconst 0, 1) := by decide +kernel
theorem dX7_dare_103 : decode cX7_dare 103 = .ok (.iadd, 1) := by decide +kernel
theorem dX7_dare_104 : decode cX7_dare 104 = .ok (.istore 4, 2) := by decide +kernel
theorem dX7_dare_106 : decode cX7_dare 106 = .ok (.iload 5, 2) := by decide +kernel
theorem dX7_dare_108 : decode cX7_dare 108 = .ok (.iload 7, 2) := by decide +kernel
theorem dX7_dare_110 : decode cX7_dare 110 = .ok (.ifCond .eq 20, 3) := by decide +kernel
theorem dX7_dare_113 : decode cX7_dare 113 = .ok (.aload_n 0, 1) := by decide +kernel
theorem dX7_dare_114 : decode cX7_dare 114 = .ok (.iload 6, 2) := by decide +kernel
theorem dX7_dare_116 : decode cX7_dare 116 = .ok (.iconst 3, 1) := by decide +kernel
theorem dX7_dare_117 : decode cX7_dare 117 = .ok (.invokevirtual 135, 3) := by decide +kernel
theorem dX7_dare_120 : decode cX7_dare 120 = .ok (.iload_n 1, 1) := by decide +kernel
theorem dX7_dare_121 : decode cX7_dare 121 = .ok (.iload_n 2, 1) := by decide +kernel
theorem dX7_dare_122 : decode cX7_dare 122 = .ok (.iadd, 1) := by decide +kernel
theorem dX7_dare_123 : decode cX7_dare 123 = .ok (.if_icmp .gt 7, 3) := by decide +kernel
theorem dX7_dare_126 : decode cX7_dare 126 = .ok (.iconst 1, 1) := by decide +kernel
theorem dX7_dare_127 : decode cX7_dare 127 = .ok (.goto 4, 3) := by decide +kernel
theorem dX7_dare_130 : decode cX7_dare 130 = .ok (.iconst 0, 1) := by decide +kernel
theorem dX7_dare_131 : decode cX7_dare 131 = .ok (.iadd, 1) := by decide +kernel
theorem dX7_dare_132 : decode cX7_dare 132 = .ok (.istore 5, 2) := by decide +kernel
theorem dX7_dare_134 : decode cX7_dare 134 = .ok (.iinc 6 1, 3) := by decide +kernel
theorem dX7_dare_137 : decode cX7_dare 137 = .ok (.goto (-92), 3) := by decide +kernel
theorem dX7_dare_140 : decode cX7_dare 140 = .ok (.iload 4, 2) := by decide +kernel
theorem dX7_dare_142 : decode cX7_dare 142 = .ok (.ifCond .ne 8, 3) := by decide +kernel
theorem dX7_dare_145 : decode cX7_dare 145 = .ok (.bipush (-4), 2) := by decide +kernel
theorem dX7_dare_147 : decode cX7_dare 147 = .ok (.goto 14, 3) := by decide +kernel
theorem dX7_dare_150 : decode cX7_dare 150 = .ok (.iload_n 3, 1) := by decide +kernel
theorem dX7_dare_151 : decode cX7_dare 151 = .ok (.ifCond .ne 8, 3) := by decide +kernel
theorem dX7_dare_154 : decode cX7_dare 154 = .ok (.iload 5, 2) := by decide +kernel
theorem dX7_dare_156 : decode cX7_dare 156 = .ok (.goto 5, 3) := by decide +kernel
theorem dX7_dare_159 : decode cX7_dare 159 = .ok (.iload 4, 2) := by decide +kernel
theorem dX7_dare_161 : decode cX7_dare 161 = .ok (.ireturn, 1) := by decide +kernel
theorem dX7_drawnDay_0 : decode cX7_drawnDay 0 = .ok (.iconst 0, 1) := by decide +kernel
theorem dX7_drawnDay_1 : decode cX7_drawnDay 1 = .ok (.istore_n 3, 1) := by decide +kernel
theorem dX7_drawnDay_2 : decode cX7_drawnDay 2 = .ok (.iload_n 3, 1) := by decide +kernel
theorem dX7_drawnDay_3 : decode cX7_drawnDay 3 = .ok (.bipush 8, 2) := by decide +kernel
theorem dX7_drawnDay_5 : decode cX7_drawnDay 5 = .ok (.if_icmp .ge 52, 3) := by decide +kernel
theorem dX7_drawnDay_8 : decode cX7_drawnDay 8 = .ok (.ldc2_w 236, 3) := by decide +kernel
theorem dX7_drawnDay_11 : decode cX7_drawnDay 11 = .ok (.iload_n 1, 1) := by decide +kernel
theorem dX7_drawnDay_12 : decode cX7_drawnDay 12 = .ok (.i2l, 1) := by decide +kernel
theorem dX7_drawnDay_13 : decode cX7_drawnDay 13 = .ok (.lmul, 1) := by decide +kernel
theorem dX7_drawnDay_14 : decode cX7_drawnDay 14 = .ok (.ldc2_w 238, 3) := by decide +kernel
theorem dX7_drawnDay_17 : decode cX7_drawnDay 17 = .ok (.iload_n 3, 1) := by decide +kernel
theorem dX7_drawnDay_18 : decode cX7_drawnDay 18 = .ok (.i2l, 1) := by decide +kernel
theorem dX7_drawnDay_19 : decode cX7_drawnDay 19 = .ok (.lmul, 1) := by decide +kernel
theorem dX7_drawnDay_20 : decode cX7_drawnDay 20 = .ok (.ladd, 1) := by decide +kernel
theorem dX7_drawnDay_21 : decode cX7_drawnDay 21 = .ok (.lconst 1, 1) := by decide +kernel
theorem dX7_drawnDay_22 : decode cX7_drawnDay 22 = .ok (.ladd, 1) := by decide +kernel
theorem dX7_drawnDay_23 : decode cX7_drawnDay 23 = .ok (.lstore 4, 2) := by decide +kernel
theorem dX7_drawnDay_25 : decode cX7_drawnDay 25 = .ok (.aload_n 0, 1) := by decide +kernel
theorem dX7_drawnDay_26 : decode cX7_drawnDay 26 = .ok (.getfield 51, 3) := by decide +kernel
theorem dX7_drawnDay_29 : decode cX7_drawnDay 29 = .ok (.iload_n 3, 1) := by decide +kernel
theorem dX7_drawnDay_30 : decode cX7_drawnDay 30 = .ok (.lload 4, 2) := by decide +kernel
theorem dX7_drawnDay_32 : decode cX7_drawnDay 32 = .ok (.lload 4, 2) := by decide +kernel
theorem dX7_drawnDay_34 : decode cX7_drawnDay 34 = .ok (.lmul, 1) := by decide +kernel
theorem dX7_drawnDay_35 : decode cX7_drawnDay 35 = .ok (.ldc2_w 240, 3) := by decide +kernel
theorem dX7_drawnDay_38 : decode cX7_drawnDay 38 = .ok (.lrem, 1) := by decide +kernel
theorem dX7_drawnDay_39 : decode cX7_drawnDay 39 = .ok (.aload_n 0, 1) := by decide +kernel
theorem dX7_drawnDay_40 : decode cX7_drawnDay 40 = .ok (.getfield 26, 3) := by decide +kernel
theorem dX7_drawnDay_43 : decode cX7_drawnDay 43 = .ok (.iconst 4, 1) := by decide +kernel
theorem dX7_drawnDay_44 : decode cX7_drawnDay 44 = .ok (.iaload, 1) := by decide +kernel
theorem dX7_drawnDay_45 : decode cX7_drawnDay 45 = .ok (.iconst 1, 1) := by decide +kernel
theorem dX7_drawnDay_46 : decode cX7_drawnDay 46 = .ok (.iadd, 1) := by decide +kernel
theorem dX7_drawnDay_47 : decode cX7_drawnDay 47 = .ok (.i2l, 1) := by decide +kernel
theorem dX7_drawnDay_48 : decode cX7_drawnDay 48 = .ok (.lrem, 1) := by decide +kernel
theorem dX7_drawnDay_49 : decode cX7_drawnDay 49 = .ok (.l2i, 1) := by decide +kernel
theorem dX7_drawnDay_50 : decode cX7_drawnDay 50 = .ok (.iastore, 1) := by decide +kernel
theorem dX7_drawnDay_51 : decode cX7_drawnDay 51 = .ok (.iinc 3 1, 3) := by decide +kernel
theorem dX7_drawnDay_54 : decode cX7_drawnDay 54 = .ok (.goto (-52), 3) := by decide +kernel
theorem dX7_drawnDay_57 : decode cX7_drawnDay 57 = .ok (.aload_n 0, 1) := by decide +kernel
theorem dX7_drawnDay_58 : decode cX7_drawnDay 58 = .ok (.iload_n 2, 1) := by decide +kernel
theorem dX7_drawnDay_59 : decode cX7_drawnDay 59 = .ok (.aload_n 0, 1) := by decide +kernel
theorem dX7_drawnDay_60 : decode cX7_drawnDay 60 = .ok (.getfield 113, 3) := by decide +kernel
theorem dX7_drawnDay_63 : decode cX7_drawnDay 63 = .ok (.sipush 399, 3) := by decide +kernel
theorem dX7_drawnDay_66 : decode cX7_drawnDay 66 = .ok (.aload_n 0, 1) := by decide +kernel
theorem dX7_drawnDay_67 : decode cX7_drawnDay 67 = .ok (.getfield 26, 3) := by decide +kernel
theorem dX7_drawnDay_70 : decode cX7_drawnDay 70 = .ok (.iconst 0, 1) := by decide +kernel
theorem dX7_drawnDay_71 : decode cX7_drawnDay 71 = .ok (.iaload, 1) := by decide +kernel
theorem dX7_drawnDay_72 : decode cX7_drawnDay 72 = .ok (.aload_n 0, 1) := by decide +kernel
theorem dX7_drawnDay_73 : decode cX7_drawnDay 73 = .ok (.getfield 26, 3) := by decide +kernel
theorem dX7_drawnDay_76 : decode cX7_drawnDay 76 = .ok (.iconst 1, 1) := by decide +kernel
theorem dX7_drawnDay_77 : decode cX7_drawnDay 77 = .ok (.iaload, 1) := by decide +kernel
theorem dX7_drawnDay_78 : decode cX7_drawnDay 78 = .ok (.invokevirtual 173, 3) := by decide +kernel
theorem dX7_drawnDay_81 : decode cX7_drawnDay 81 = .ok (.aload_n 0, 1) := by decide +kernel
theorem dX7_drawnDay_82 : decode cX7_drawnDay 82 = .ok (.getfield 149, 3) := by decide +kernel
theorem dX7_drawnDay_85 : decode cX7_drawnDay 85 = .ok (.invokestatic 195, 3) := by decide +kernel
theorem dX7_drawnDay_88 : decode cX7_drawnDay 88 = .ok (.ireturn, 1) := by decide +kernel
theorem dX7_isSeed_0 : decode cX7_isSeed 0 = .ok (.iload_n 0, 1) := by decide +kernel
theorem dX7_isSeed_1 : decode cX7_isSeed 1 = .ok (.i2l, 1) := by decide +kernel
theorem dX7_isSeed_2 : decode cX7_isSeed 2 = .ok (.lconst 0, 1) := by decide +kernel
theorem dX7_isSeed_3 : decode cX7_isSeed 3 = .ok (.ldc2_w 205, 3) := by decide +kernel
theorem dX7_isSeed_6 : decode cX7_isSeed 6 = .ok (.invokestatic 80, 3) := by decide +kernel
theorem dX7_isSeed_9 : decode cX7_isSeed 9 = .ok (.ireturn, 1) := by decide +kernel
theorem dX7_drawn_0 : decode cX7_drawn 0 = .ok (.iload_n 1, 1) := by decide +kernel
theorem dX7_drawn_1 : decode cX7_drawn 1 = .ok (.invokestatic 242, 3) := by decide +kernel
theorem dX7_drawn_4 : decode cX7_drawn 4 = .ok (.ifCond .eq 19, 3) := by decide +kernel
theorem dX7_drawn_7 : decode cX7_drawn 7 = .ok (.iload_n 2, 1) := by decide +kernel
theorem dX7_drawn_8 : decode cX7_drawn 8 = .ok (.invokestatic 183, 3) := by decide +kernel
theorem dX7_drawn_11 : decode cX7_drawn 11 = .ok (.ifCond .eq 12, 3) := by decide +kernel
theorem dX7_drawn_14 : decode cX7_drawn 14 = .ok (.aload_n 0, 1) := by decide +kernel
theorem dX7_drawn_15 : decode cX7_drawn 15 = .ok (.iload_n 1, 1) := by decide +kernel
theorem dX7_drawn_16 : decode cX7_drawn 16 = .ok (.iload_n 2, 1) := by decide +kernel
theorem dX7_drawn_17 : decode cX7_drawn 17 = .ok (.invokevirtual 245, 3) := by decide +kernel
theorem dX7_drawn_20 : decode cX7_drawn 20 = .ok (.goto 4, 3) := by decide +kernel
theorem dX7_drawn_23 : decode cX7_drawn 23 = .ok (.iconst (-1), 1) := by decide +kernel
theorem dX7_drawn_24 : decode cX7_drawn 24 = .ok (.ireturn, 1) := by decide +kernel
theorem dX7_ten_0 : decode cX7_ten 0 = .ok (.iload_n 1, 1) := by decide +kernel
theorem dX7_ten_1 : decode cX7_ten 1 = .ok (.invokestatic 242, 3) := by decide +kernel
theorem dX7_ten_4 : decode cX7_ten 4 = .ok (.ifCond .eq 10, 3) := by decide +kernel
theorem dX7_ten_7 : decode cX7_ten 7 = .ok (.iload_n 2, 1) := by decide +kernel
theorem dX7_ten_8 : decode cX7_ten 8 = .ok (.invokestatic 183, 3) := by decide +kernel
theorem dX7_ten_11 : decode cX7_ten 11 = .ok (.ifCond .ne 5, 3) := by decide +kernel
theorem dX7_ten_14 : decode cX7_ten 14 = .ok (.iconst (-1), 1) := by decide +kernel
theorem dX7_ten_15 : decode cX7_ten 15 = .ok (.ireturn, 1) := by decide +kernel
theorem dX7_ten_16 : decode cX7_ten 16 = .ok (.iconst 0, 1) := by decide +kernel
theorem dX7_ten_17 : decode cX7_ten 17 = .ok (.istore_n 3, 1) := by decide +kernel
theorem dX7_ten_18 : decode cX7_ten 18 = .ok (.iconst 0, 1) := by decide +kernel
theorem dX7_ten_19 : decode cX7_ten 19 = .ok (.istore 4, 2) := by decide +kernel
theorem dX7_ten_21 : decode cX7_ten 21 = .ok (.iload 4, 2) := by decide +kernel
theorem dX7_ten_23 : decode cX7_ten 23 = .ok (.bipush 10, 2) := by decide +kernel
theorem dX7_ten_25 : decode cX7_ten 25 = .ok (.if_icmp .ge 33, 3) := by decide +kernel
theorem dX7_ten_28 : decode cX7_ten 28 = .ok (.iload_n 3, 1) := by decide +kernel
theorem dX7_ten_29 : decode cX7_ten 29 = .ok (.aload_n 0, 1) := by decide +kernel
theorem dX7_ten_30 : decode cX7_ten 30 = .ok (.iload_n 1, 1) := by decide +kernel
theorem dX7_ten_31 : decode cX7_ten 31 = .ok (.iload 4, 2) := by decide +kernel
theorem dX7_ten_33 : decode cX7_ten 33 = .ok (.iadd, 1) := by decide +kernel
theorem dX7_ten_34 : decode cX7_ten 34 = .ok (.sipush 10000, 3) := by decide +kernel
theorem dX7_ten_37 : decode cX7_ten 37 = .ok (.irem, 1) := by decide +kernel
theorem dX7_ten_38 : decode cX7_ten 38 = .ok (.iload_n 2, 1) := by decide +kernel
theorem dX7_ten_39 : decode cX7_ten 39 = .ok (.invokevirtual 245, 3) := by decide +kernel
theorem dX7_ten_42 : decode cX7_ten 42 = .ok (.ifCond .ne 7, 3) := by decide +kernel
theorem dX7_ten_45 : decode cX7_ten 45 = .ok (.iconst 1, 1) := by decide +kernel
theorem dX7_ten_46 : decode cX7_ten 46 = .ok (.goto 4, 3) := by decide +kernel
theorem dX7_ten_49 : decode cX7_ten 49 = .ok (.iconst 0, 1) := by decide +kernel
theorem dX7_ten_50 : decode cX7_ten 50 = .ok (.iadd, 1) := by decide +kernel
theorem dX7_ten_51 : decode cX7_ten 51 = .ok (.istore_n 3, 1) := by decide +kernel
theorem dX7_ten_52 : decode cX7_ten 52 = .ok (.iinc 4 1, 3) := by decide +kernel
theorem dX7_ten_55 : decode cX7_ten 55 = .ok (.goto (-34), 3) := by decide +kernel
theorem dX7_ten_58 : decode cX7_ten 58 = .ok (.iload_n 3, 1) := by decide +kernel
theorem dX7_ten_59 : decode cX7_ten 59 = .ok (.ireturn, 1) := by decide +kernel
theorem dX7_keep_0 : decode cX7_keep 0 = .ok (.aload_n 0, 1) := by decide +kernel
theorem dX7_keep_1 : decode cX7_keep 1 = .ok (.getfield 116, 3) := by decide +kernel
theorem dX7_keep_4 : decode cX7_keep 4 = .ok (.iconst 2, 1) := by decide +kernel
theorem dX7_keep_5 : decode cX7_keep 5 = .ok (.if_icmp .ne 6, 3) := by decide +kernel
theorem dX7_keep_8 : decode cX7_keep 8 = .ok (.bipush (-3), 2) := by decide +kernel
theorem dX7_keep_10 : decode cX7_keep 10 = .ok (.ireturn, 1) := by decide +kernel
theorem dX7_keep_11 : decode cX7_keep 11 = .ok (.aload_n 0, 1) := by decide +kernel
theorem dX7_keep_12 : decode cX7_keep 12 = .ok (.getfield 29, 3) := by decide +kernel
theorem dX7_keep_15 : decode cX7_keep 15 = .ok (.aload_n 0, 1) := by decide +kernel
theorem dX7_keep_16 : decode cX7_keep 16 = .ok (.getfield 116, 3) := by decide +kernel
theorem dX7_keep_19 : decode cX7_keep 19 = .ok (.aload_n 0, 1) := by decide +kernel
theorem dX7_keep_20 : decode cX7_keep 20 = .ok (.getfield 113, 3) := by decide +kernel
theorem dX7_keep_23 : decode cX7_keep 23 = .ok (.iastore, 1) := by decide +kernel
theorem dX7_keep_24 : decode cX7_keep 24 = .ok (.aload_n 0, 1) := by decide +kernel
theorem dX7_keep_25 : decode cX7_keep 25 = .ok (.dup, 1) := by decide +kernel
theorem dX7_keep_26 : decode cX7_keep 26 = .ok (.getfield 116, 3) := by decide +kernel
theorem dX7_keep_29 : decode cX7_keep 29 = .ok (.iconst 1, 1) := by decide +kernel
theorem dX7_keep_30 : decode cX7_keep 30 = .ok (.iadd, 1) := by decide +kernel
theorem dX7_keep_31 : decode cX7_keep 31 = .ok (.putfield 116, 3) := by decide +kernel
theorem dX7_keep_34 : decode cX7_keep 34 = .ok (.aload_n 0, 1) := by decide +kernel
theorem dX7_keep_35 : decode cX7_keep 35 = .ok (.getfield 116, 3) := by decide +kernel
theorem dX7_keep_38 : decode cX7_keep 38 = .ok (.ireturn, 1) := by decide +kernel
theorem dX7_back_0 : decode cX7_back 0 = .ok (.aload_n 0, 1) := by decide +kernel
theorem dX7_back_1 : decode cX7_back 1 = .ok (.getfield 116, 3) := by decide +kernel
theorem dX7_back_4 : decode cX7_back 4 = .ok (.ifCond .ne 6, 3) := by decide +kernel
theorem dX7_back_7 : decode cX7_back 7 = .ok (.bipush (-2), 2) := by decide +kernel
theorem dX7_back_9 : decode cX7_back 9 = .ok (.ireturn, 1) := by decide +kernel
theorem dX7_back_10 : decode cX7_back 10 = .ok (.aload_n 0, 1) := by decide +kernel
theorem dX7_back_11 : decode cX7_back 11 = .ok (.dup, 1) := by decide +kernel
theorem dX7_back_12 : decode cX7_back 12 = .ok (.getfield 116, 3) := by decide +kernel
theorem dX7_back_15 : decode cX7_back 15 = .ok (.iconst 1, 1) := by decide +kernel
theorem dX7_back_16 : decode cX7_back 16 = .ok (.isub, 1) := by decide +kernel
theorem dX7_back_17 : decode cX7_back 17 = .ok (.putfield 116, 3) := by decide +kernel
theorem dX7_back_20 : decode cX7_back 20 = .ok (.aload_n 0, 1) := by decide +kernel
theorem dX7_back_21 : decode cX7_back 21 = .ok (.aload_n 0, 1) := by decide +kernel
theorem dX7_back_22 : decode cX7_back 22 = .ok (.getfield 29, 3) := by decide +kernel
theorem dX7_back_25 : decode cX7_back 25 = .ok (.aload_n 0, 1) := by decide +kernel
theorem dX7_back_26 : decode cX7_back 26 = .ok (.getfield 116, 3) := by decide +kernel
theorem dX7_back_29 : decode cX7_back 29 = .ok (.iaload, 1) := by decide +kernel
theorem dX7_back_30 : decode cX7_back 30 = .ok (.putfield 113, 3) := by decide +kernel
theorem dX7_back_33 : decode cX7_back 33 = .ok (.aload_n 0, 1) := by decide +kernel
theorem dX7_back_34 : decode cX7_back 34 = .ok (.getfield 116, 3) := by decide +kernel
theorem dX7_back_37 : decode cX7_back 37 = .ok (.ireturn, 1) := by decide +kernel
theorem dX7_count_0 : decode cX7_count 0 = .ok (.iload_n 1, 1) := by decide +kernel
theorem dX7_count_1 : decode cX7_count 1 = .ok (.ifCond .ne 12, 3) := by decide +kernel
theorem dX7_count_4 : decode cX7_count 4 = .ok (.aload_n 0, 1) := by decide +kernel
theorem dX7_count_5 : decode cX7_count 5 = .ok (.getfield 13, 3) := by decide +kernel
theorem dX7_count_8 : decode cX7_count 8 = .ok (.iconst 0, 1) := by decide +kernel
theorem dX7_count_9 : decode cX7_count 9 = .ok (.iaload, 1) := by decide +kernel
theorem dX7_count_10 : decode cX7_count 10 = .ok (.goto 57, 3) := by decide +kernel
theorem dX7_count_13 : decode cX7_count 13 = .ok (.iload_n 1, 1) := by decide +kernel
theorem dX7_count_14 : decode cX7_count 14 = .ok (.iconst 1, 1) := by decide +kernel
theorem dX7_count_15 : decode cX7_count 15 = .ok (.if_icmp .ne 12, 3) := by decide +kernel
theorem dX7_count_18 : decode cX7_count 18 = .ok (.aload_n 0, 1) := by decide +kernel
theorem dX7_count_19 : decode cX7_count 19 = .ok (.getfield 17, 3) := by decide +kernel
theorem dX7_count_22 : decode cX7_count 22 = .ok (.iconst 0, 1) := by decide +kernel
theorem dX7_count_23 : decode cX7_count 23 = .ok (.iaload, 1) := by decide +kernel
theorem dX7_count_24 : decode cX7_count 24 = .ok (.goto 43, 3) := by decide +kernel
theorem dX7_count_27 : decode cX7_count 27 = .ok (.iload_n 1, 1) := by decide +kernel
theorem dX7_count_28 : decode cX7_count 28 = .ok (.iconst 2, 1) := by decide +kernel
theorem dX7_count_29 : decode cX7_count 29 = .ok (.if_icmp .ne 10, 3) := by decide +kernel
theorem dX7_count_32 : decode cX7_count 32 = .ok (.aload_n 0, 1) := by decide +kernel
theorem dX7_count_33 : decode cX7_count 33 = .ok (.getfield 84, 3) := by decide +kernel
theorem dX7_count_36 : decode cX7_count 36 = .ok (.goto 31, 3) := by decide +kernel
theorem dX7_count_39 : decode cX7_count 39 = .ok (.iload_n 1, 1) := by decide +kernel
theorem dX7_count_40 : decode cX7_count 40 = .ok (.iconst 3, 1) := by decide +kernel
theorem dX7_count_41 : decode cX7_count 41 = .ok (.if_icmp .ne 13, 3) := by decide +kernel
theorem dX7_count_44 : decode cX7_count 44 = .ok (.aload_n 0, 1) := by decide +kernel
theorem dX7_count_45 : decode cX7_count 45 = .ok (.getfield 113, 3) := by decide +kernel
theorem dX7_count_48 : decode cX7_count 48 = .ok (.invokestatic 195, 3) := by decide +kernel
theorem dX7_count_51 : decode cX7_count 51 = .ok (.goto 16, 3) := by decide +kernel
theorem dX7_count_54 : decode cX7_count 54 = .ok (.iload_n 1, 1) := by decide +kernel
theorem dX7_count_55 : decode cX7_count 55 = .ok (.iconst 4, 1) := by decide +kernel
theorem dX7_count_56 : decode cX7_count 56 = .ok (.if_icmp .ne 10, 3) := by decide +kernel
theorem dX7_count_59 : decode cX7_count 59 = .ok (.aload_n 0, 1) := by decide +kernel
theorem dX7_count_60 : decode cX7_count 60 = .ok (.getfield 116, 3) := by decide +kernel
theorem dX7_count_63 : decode cX7_count 63 = .ok (.goto 4, 3) := by decide +kernel
theorem dX7_count_66 : decode cX7_count 66 = .ok (.iconst (-1), 1) := by decide +kernel
theorem dX7_count_67 : decode cX7_count 67 = .ok (.ireturn, 1) := by decide +kernel
end
section
theorem dL_law_0 : decode cL_law 0 = .ok (.new 7, 3) := by decide +kernel
theorem dL_law_3 : decode cL_law 3 = .ok (.dup, 1) := by decide +kernel
theorem dL_law_4 : decode cL_law 4 = .ok (.invokespecial 9, 3) := by decide +kernel
theorem dL_law_7 : decode cL_law 7 = .ok (.astore_n 1, 1) := by decide +kernel
theorem dL_law_8 : decode cL_law 8 = .ok (.new 10, 3) := by decide +kernel
theorem dL_law_11 : decode cL_law 11 = .ok (.dup, 1) := by decide +kernel
theorem dL_law_12 : decode cL_law 12 = .ok (.invokespecial 12, 3) := by decide +kernel
theorem dL_law_15 : decode cL_law 15 = .ok (.astore_n 2, 1) := by decide +kernel
theorem dL_law_16 : decode cL_law 16 = .ok (.iconst 0, 1) := by decide +kernel
theorem dL_law_17 : decode cL_law 17 = .ok (.istore_n 3, 1) := by decide +kernel
theorem dL_law_18 : decode cL_law 18 = .ok (.iload_n 3, 1) := by decide +kernel
theorem dL_law_19 : decode cL_law 19 = .ok (.aload_n 0, 1) := by decide +kernel
theorem dL_law_20 : decode cL_law 20 = .ok (.arraylength, 1) := by decide +kernel
theorem dL_law_21 : decode cL_law 21 = .ok (.iconst 5, 1) := by decide +kernel
theorem dL_law_22 : decode cL_law 22 = .ok (.isub, 1) := by decide +kernel
theorem dL_law_23 : decode cL_law 23 = .ok (.if_icmp .gt 950, 3) := by decide +kernel
theorem dL_law_26 : decode cL_law 26 = .ok (.aload_n 0, 1) := by decide +kernel
theorem dL_law_27 : decode cL_law 27 = .ok (.iload_n 3, 1) := by decide +kernel
theorem dL_law_28 : decode cL_law 28 = .ok (.iaload, 1) := by decide +kernel
theorem dL_law_29 : decode cL_law 29 = .ok (.bipush 31, 2) := by decide +kernel
theorem dL_law_31 : decode cL_law 31 = .ok (.iand, 1) := by decide +kernel
theorem dL_law_32 : decode cL_law 32 = .ok (.tableswitch 935 0 25 #[120, 183, 196, 209, 222, 255, 278, 327, 380, 423, 456, 489, 502, 535, 568, 601, 634, 657, 680, 734, 777, 820, 853, 886, 899, 912], 120) := by decide +kernel
theorem dL_law_152 : decode cL_law 152 = .ok (.aload_n 1, 1) := by decide +kernel
theorem dL_law_153 : decode cL_law 153 = .ok (.aload_n 0, 1) := by decide +kernel
theorem dL_law_154 : decode cL_law 154 = .ok (.iload_n 3, 1) := by decide +kernel
theorem dL_law_155 : decode cL_law 155 = .ok (.iconst 1, 1) := by decide +kernel
theorem dL_law_156 : decode cL_law 156 = .ok (.iadd, 1) := by decide +kernel
theorem dL_law_157 : decode cL_law 157 = .ok (.iaload, 1) := by decide +kernel
theorem dL_law_158 : decode cL_law 158 = .ok (.aload_n 0, 1) := by decide +kernel
theorem dL_law_159 : decode cL_law 159 = .ok (.iload_n 3, 1) := by decide +kernel
theorem dL_law_160 : decode cL_law 160 = .ok (.iconst 2, 1) := by decide +kernel
theorem dL_law_161 : decode cL_law 161 = .ok (.iadd, 1) := by decide +kernel
theorem dL_law_162 : decode cL_law 162 = .ok (.iaload, 1) := by decide +kernel
theorem dL_law_163 : decode cL_law 163 = .ok (.i2l, 1) := by decide +kernel
theorem dL_law_164 : decode cL_law 164 = .ok (.bipush 32, 2) := by decide +kernel
theorem dL_law_166 : decode cL_law 166 = .ok (.lshl, 1) := by decide +kernel
theorem dL_law_167 : decode cL_law 167 = .ok (.aload_n 0, 1) := by decide +kernel
theorem dL_law_168 : decode cL_law 168 = .ok (.iload_n 3, 1) := by decide +kernel
theorem dL_law_169 : decode cL_law 169 = .ok (.iconst 3, 1) := by decide +kernel
theorem dL_law_170 : decode cL_law 170 = .ok (.iadd, 1) := by decide +kernel
theorem dL_law_171 : decode cL_law 171 = .ok (.iaload, 1) := by decide +kernel
theorem dL_law_172 : decode cL_law 172 = .ok (.i2l, 1) := by decide +kernel
theorem dL_law_173 : decode cL_law 173 = .ok (.ldc2_w 13, 3) := by decide +kernel
theorem dL_law_176 : decode cL_law 176 = .ok (.land, 1) := by decide +kernel
theorem dL_law_177 : decode cL_law 177 = .ok (.lor, 1) := by decide +kernel
theorem dL_law_178 : decode cL_law 178 = .ok (.invokevirtual 15, 3) := by decide +kernel
theorem dL_law_181 : decode cL_law 181 = .ok (.aload_n 2, 1) := by decide +kernel
theorem dL_law_182 : decode cL_law 182 = .ok (.aload_n 0, 1) := by decide +kernel
theorem dL_law_183 : decode cL_law 183 = .ok (.iload_n 3, 1) := by decide +kernel
theorem dL_law_184 : decode cL_law 184 = .ok (.iconst 1, 1) := by decide +kernel
theorem dL_law_185 : decode cL_law 185 = .ok (.iadd, 1) := by decide +kernel
theorem dL_law_186 : decode cL_law 186 = .ok (.iaload, 1) := by decide +kernel
theorem dL_law_187 : decode cL_law 187 = .ok (.aload_n 0, 1) := by decide +kernel
theorem dL_law_188 : decode cL_law 188 = .ok (.iload_n 3, 1) := by decide +kernel
theorem dL_law_189 : decode cL_law 189 = .ok (.iconst 2, 1) := by decide +kernel
theorem dL_law_190 : decode cL_law 190 = .ok (.iadd, 1) := by decide +kernel
theorem dL_law_191 : decode cL_law 191 = .ok (.iaload, 1) := by decide +kernel
theorem dL_law_192 : decode cL_law 192 = .ok (.i2l, 1) := by decide +kernel
theorem dL_law_193 : decode cL_law 193 = .ok (.bipush 32, 2) := by decide +kernel
theorem dL_law_195 : decode cL_law 195 = .ok (.lshl, 1) := by decide +kernel
theorem dL_law_196 : decode cL_law 196 = .ok (.aload_n 0, 1) := by decide +kernel
theorem dL_law_197 : decode cL_law 197 = .ok (.iload_n 3, 1) := by decide +kernel
theorem dL_law_198 : decode cL_law 198 = .ok (.iconst 3, 1) := by decide +kernel
theorem dL_law_199 : decode cL_law 199 = .ok (.iadd, 1) := by decide +kernel
theorem dL_law_200 : decode cL_law 200 = .ok (.iaload, 1) := by decide +kernel
theorem dL_law_201 : decode cL_law 201 = .ok (.i2l, 1) := by decide +kernel
theorem dL_law_202 : decode cL_law 202 = .ok (.ldc2_w 13, 3) := by decide +kernel
theorem dL_law_205 : decode cL_law 205 = .ok (.land, 1) := by decide +kernel
theorem dL_law_206 : decode cL_law 206 = .ok (.lor, 1) := by decide +kernel
theorem dL_law_207 : decode cL_law 207 = .ok (.invokevirtual 19, 3) := by decide +kernel
theorem dL_law_210 : decode cL_law 210 = .ok (.if_icmp .eq 757, 3) := by decide +kernel
theorem dL_law_213 : decode cL_law 213 = .ok (.iconst 0, 1) := by decide +kernel
theorem dL_law_214 : decode cL_law 214 = .ok (.ireturn, 1) := by decide +kernel
theorem dL_law_215 : decode cL_law 215 = .ok (.aload_n 1, 1) := by decide +kernel
theorem dL_law_216 : decode cL_law 216 = .ok (.invokevirtual 20, 3) := by decide +kernel
theorem dL_law_219 : decode cL_law 219 = .ok (.aload_n 2, 1) := by decide +kernel
theorem dL_law_220 : decode cL_law 220 = .ok (.invokevirtual 24, 3) := by decide +kernel
theorem dL_law_223 : decode cL_law 223 = .ok (.if_icmp .eq 744, 3) := by decide +kernel
theorem dL_law_226 : decode cL_law 226 = .ok (.iconst 0, 1) := by decide +kernel
theorem dL_law_227 : decode cL_law 227 = .ok (.ireturn, 1) := by decide +kernel
theorem dL_law_228 : decode cL_law 228 = .ok (.aload_n 1, 1) := by decide +kernel
theorem dL_law_229 : decode cL_law 229 = .ok (.invokevirtual 25, 3) := by decide +kernel
theorem dL_law_232 : decode cL_law 232 = .ok (.aload_n 2, 1) := by decide +kernel
theorem dL_law_233 : decode cL_law 233 = .ok (.invokevirtual 28, 3) := by decide +kernel
theorem dL_law_236 : decode cL_law 236 = .ok (.if_icmp .eq 731, 3) := by decide +kernel
theorem dL_law_239 : decode cL_law 239 = .ok (.iconst 0, 1) := by decide +kernel
theorem dL_law_240 : decode cL_law 240 = .ok (.ireturn, 1) := by decide +kernel
theorem dL_law_241 : decode cL_law 241 = .ok (.aload_n 1, 1) := by decide +kernel
theorem dL_law_242 : decode cL_law 242 = .ok (.invokevirtual 29, 3) := by decide +kernel
theorem dL_law_245 : decode cL_law 245 = .ok (.aload_n 2, 1) := by decide +kernel
theorem dL_law_246 : decode cL_law 246 = .ok (.invokevirtual 32, 3) := by decide +kernel
theorem dL_law_249 : decode cL_law 249 = .ok (.if_icmp .eq 718, 3) := by decide +kernel
theorem dL_law_252 : decode cL_law 252 = .ok (.iconst 0, 1) := by decide +kernel
theorem dL_law_253 : decode cL_law 253 = .ok (.ireturn, 1) := by decide +kernel
theorem dL_law_254 : decode cL_law 254 = .ok (.aload_n 1, 1) := by decide +kernel
theorem dL_law_255 : decode cL_law 255 = .ok (.aload_n 0, 1) := by decide +kernel
theorem dL_law_256 : decode cL_law 256 = .ok (.iload_n 3, 1) := by decide +kernel
theorem dL_law_257 : decode cL_law 257 = .ok (.iconst 1, 1) := by decide +kernel
theorem dL_law_258 : decode cL_law 258 = .ok (.iadd, 1) := by decide +kernel
theorem dL_law_259 : decode cL_law 259 = .ok (.iaload, 1) := by decide +kernel
theorem dL_law_260 : decode cL_law 260 = .ok (.aload_n 0, 1) := by decide +kernel
theorem dL_law_261 : decode cL_law 261 = .ok (.iload_n 3, 1) := by decide +kernel
theorem dL_law_262 : decode cL_law 262 = .ok (.iconst 2, 1) := by decide +kernel
theorem dL_law_263 : decode cL_law 263 = .ok (.iadd, 1) := by decide +kernel
theorem dL_law_264 : decode cL_law 264 = .ok (.iaload, 1) := by decide +kernel
theorem dL_law_265 : decode cL_law 265 = .ok (.invokevirtual 33, 3) := by decide +kernel
theorem dL_law_268 : decode cL_law 268 = .ok (.aload_n 2, 1) := by decide +kernel
theorem dL_law_269 : decode cL_law 269 = .ok (.aload_n 0, 1) := by decide +kernel
theorem dL_law_270 : decode cL_law 270 = .ok (.iload_n 3, 1) := by decide +kernel
theorem dL_law_271 : decode cL_law 271 = .ok (.iconst 1, 1) := by decide +kernel
theorem dL_law_272 : decode cL_law 272 = .ok (.iadd, 1) := by decide +kernel
theorem dL_law_273 : decode cL_law 273 = .ok (.iaload, 1) := by decide +kernel
theorem dL_law_274 : decode cL_law 274 = .ok (.aload_n 0, 1) := by decide +kernel
theorem dL_law_275 : decode cL_law 275 = .ok (.iload_n 3, 1) := by decide +kernel
theorem dL_law_276 : decode cL_law 276 = .ok (.iconst 2, 1) := by decide +kernel
theorem dL_law_277 : decode cL_law 277 = .ok (.iadd, 1) := by decide +kernel
theorem dL_law_278 : decode cL_law 278 = .ok (.iaload, 1) := by decide +kernel
theorem dL_law_279 : decode cL_law 279 = .ok (.invokevirtual 37, 3) := by decide +kernel
theorem dL_law_282 : decode cL_law 282 = .ok (.if_icmp .eq 685, 3) := by decide +kernel
theorem dL_law_285 : decode cL_law 285 = .ok (.iconst 0, 1) := by decide +kernel
theorem dL_law_286 : decode cL_law 286 = .ok (.ireturn, 1) := by decide +kernel
theorem dL_law_287 : decode cL_law 287 = .ok (.aload_n 1, 1) := by decide +kernel
theorem dL_law_288 : decode cL_law 288 = .ok (.aload_n 0, 1) := by decide +kernel
theorem dL_law_289 : decode cL_law 289 = .ok (.iload_n 3, 1) := by decide +kernel
theorem dL_law_290 : decode cL_law 290 = .ok (.iconst 1, 1) := by decide +kernel
theorem dL_law_291 : decode cL_law 291 = .ok (.iadd, 1) := by decide +kernel
theorem dL_law_292 : decode cL_law 292 = .ok (.iaload, 1) := by decide +kernel
theorem dL_law_293 : decode cL_law 293 = .ok (.invokevirtual 38, 3) := by decide +kernel
theorem dL_law_296 : decode cL_law 296 = .ok (.aload_n 2, 1) := by decide +kernel
theorem dL_law_297 : decode cL_law 297 = .ok (.aload_n 0, 1) := by decide +kernel
theorem dL_law_298 : decode cL_law 298 = .ok (.iload_n 3, 1) := by decide +kernel
theorem dL_law_299 : decode cL_law 299 = .ok (.iconst 1, 1) := by decide +kernel
theorem dL_law_300 : decode cL_law 300 = .ok (.iadd, 1) := by decide +kernel
theorem dL_law_301 : decode cL_law 301 = .ok (.iaload, 1) := by decide +kernel
theorem dL_law_302 : decode cL_law 302 = .ok (.invokevirtual 42, 3) := by decide +kernel
theorem dL_law_305 : decode cL_law 305 = .ok (.if_icmp .eq 662, 3) := by decide +kernel
theorem dL_law_308 : decode cL_law 308 = .ok (.iconst 0, 1) := by decide +kernel
theorem dL_law_309 : decode cL_law 309 = .ok (.ireturn, 1) := by decide +kernel
theorem dL_law_310 : decode cL_law 310 = .ok (.aload_n 1, 1) := by decide +kernel
theorem dL_law_311 : decode cL_law 311 = .ok (.aload_n 0, 1) := by decide +kernel
theorem dL_law_312 : decode cL_law 312 = .ok (.iload_n 3, 1) := by decide +kernel
theorem dL_law_313 : decode cL_law 313 = .ok (.iconst 1, 1) := by decide +kernel
theorem dL_law_314 : decode cL_law 314 = .ok (.iadd, 1) := by decide +kernel
theorem dL_law_315 : decode cL_law 315 = .ok (.iaload, 1) := by decide +kernel
theorem dL_law_316 : decode cL_law 316 = .ok (.aload_n 0, 1) := by decide +kernel
theorem dL_law_317 : decode cL_law 317 = .ok (.iload_n 3, 1) := by decide +kernel
theorem dL_law_318 : decode cL_law 318 = .ok (.iconst 2, 1) := by decide +kernel
theorem dL_law_319 : decode cL_law 319 = .ok (.iadd, 1) := by decide +kernel
theorem dL_law_320 : decode cL_law 320 = .ok (.iaload, 1) := by decide +kernel
theorem dL_law_321 : decode cL_law 321 = .ok (.ifCond .eq 7, 3) := by decide +kernel
theorem dL_law_324 : decode cL_law 324 = .ok (.iconst 1, 1) := by decide +kernel
theorem dL_law_325 : decode cL_law 325 = .ok (.goto 4, 3) := by decide +kernel
theorem dL_law_328 : decode cL_law 328 = .ok (.iconst 0, 1) := by decide +kernel
theorem dL_law_329 : decode cL_law 329 = .ok (.invokevirtual 43, 3) := by decide +kernel
theorem dL_law_332 : decode cL_law 332 = .ok (.aload_n 2, 1) := by decide +kernel
theorem dL_law_333 : decode cL_law 333 = .ok (.aload_n 0, 1) := by decide +kernel
theorem dL_law_334 : decode cL_law 334 = .ok (.iload_n 3, 1) := by decide +kernel
theorem dL_law_335 : decode cL_law 335 = .ok (.iconst 1, 1) := by decide +kernel
theorem dL_law_336 : decode cL_law 336 = .ok (.iadd, 1) := by decide +kernel
theorem dL_law_337 : decode cL_law 337 = .ok (.iaload, 1) := by decide +kernel
theorem dL_law_338 : decode cL_law 338 = .ok (.aload_n 0, 1) := by decide +kernel
theorem dL_law_339 : decode cL_law 339 = .ok (.iload_n 3, 1) := by decide +kernel
theorem dL_law_340 : decode cL_law 340 = .ok (.iconst 2, 1) := by decide +kernel
theorem dL_law_341 : decode cL_law 341 = .ok (.iadd, 1) := by decide +kernel
theorem dL_law_342 : decode cL_law 342 = .ok (.iaload, 1) := by decide +kernel
theorem dL_law_343 : decode cL_law 343 = .ok (.ifCond .eq 7, 3) := by decide +kernel
theorem dL_law_346 : decode cL_law 346 = .ok (.iconst 1, 1) := by decide +kernel
theorem dL_law_347 : decode cL_law 347 = .ok (.goto 4, 3) := by decide +kernel
theorem dL_law_350 : decode cL_law 350 = .ok (.iconst 0, 1) := by decide +kernel
theorem dL_law_351 : decode cL_law 351 = .ok (.invokevirtual 47, 3) := by decide +kernel
theorem dL_law_354 : decode cL_law 354 = .ok (.if_icmp .eq 613, 3) := by decide +kernel
theorem dL_law_357 : decode cL_law 357 = .ok (.iconst 0, 1) := by decide +kernel
theorem dL_law_358 : decode cL_law 358 = .ok (.ireturn, 1) := by decide +kernel
theorem dL_law_359 : decode cL_law 359 = .ok (.aload_n 1, 1) := by decide +kernel
theorem dL_law_360 : decode cL_law 360 = .ok (.aload_n 0, 1) := by decide +kernel
theorem dL_law_361 : decode cL_law 361 = .ok (.iload_n 3, 1) := by decide +kernel
theorem dL_law_362 : decode cL_law 362 = .ok (.iconst 1, 1) := by decide +kernel
theorem dL_law_363 : decode cL_law 363 = .ok (.iadd, 1) := by decide +kernel
theorem dL_law_364 : decode cL_law 364 = .ok (.iaload, 1) := by decide +kernel
theorem dL_law_365 : decode cL_law 365 = .ok (.aload_n 0, 1) := by decide +kernel
theorem dL_law_366 : decode cL_law 366 = .ok (.iload_n 3, 1) := by decide +kernel
theorem dL_law_367 : decode cL_law 367 = .ok (.iconst 2, 1) := by decide +kernel
theorem dL_law_368 : decode cL_law 368 = .ok (.iadd, 1) := by decide +kernel
theorem dL_law_369 : decode cL_law 369 = .ok (.iaload, 1) := by decide +kernel
theorem dL_law_370 : decode cL_law 370 = .ok (.aload_n 0, 1) := by decide +kernel
theorem dL_law_371 : decode cL_law 371 = .ok (.iload_n 3, 1) := by decide +kernel
theorem dL_law_372 : decode cL_law 372 = .ok (.iconst 3, 1) := by decide +kernel
theorem dL_law_373 : decode cL_law 373 = .ok (.iadd, 1) := by decide +kernel
theorem dL_law_374 : decode cL_law 374 = .ok (.iaload, 1) := by decide +kernel
theorem dL_law_375 : decode cL_law 375 = .ok (.aload_n 0, 1) := by decide +kernel
theorem dL_law_376 : decode cL_law 376 = .ok (.iload_n 3, 1) := by decide +kernel
theorem dL_law_377 : decode cL_law 377 = .ok (.iconst 4, 1) := by decide +kernel
theorem dL_law_378 : decode cL_law 378 = .ok (.iadd, 1) := by decide +kernel
theorem dL_law_379 : decode cL_law 379 = .ok (.iaload, 1) := by decide +kernel
theorem dL_law_380 : decode cL_law 380 = .ok (.invokevirtual 48, 3) := by decide +kernel
theorem dL_law_383 : decode cL_law 383 = .ok (.aload_n 2, 1) := by decide +kernel
theorem dL_law_384 : decode cL_law 384 = .ok (.aload_n 0, 1) := by decide +kernel
theorem dL_law_385 : decode cL_law 385 = .ok (.iload_n 3, 1) := by decide +kernel
theorem dL_law_386 : decode cL_law 386 = .ok (.iconst 1, 1) := by decide +kernel
theorem dL_law_387 : decode cL_law 387 = .ok (.iadd, 1) := by decide +kernel
theorem dL_law_388 : decode cL_law 388 = .ok (.iaload, 1) := by decide +kernel
theorem dL_law_389 : decode cL_law 389 = .ok (.aload_n 0, 1) := by decide +kernel
theorem dL_law_390 : decode cL_law 390 = .ok (.iload_n 3, 1) := by decide +kernel
theorem dL_law_391 : decode cL_law 391 = .ok (.iconst 2, 1) := by decide +kernel
theorem dL_law_392 : decode cL_law 392 = .ok (.iadd, 1) := by decide +kernel
theorem dL_law_393 : decode cL_law 393 = .ok (.iaload, 1) := by decide +kernel
theorem dL_law_394 : decode cL_law 394 = .ok (.aload_n 0, 1) := by decide +kernel
theorem dL_law_395 : decode cL_law 395 = .ok (.iload_n 3, 1) := by decide +kernel
theorem dL_law_396 : decode cL_law 396 = .ok (.iconst 3, 1) := by decide +kernel
theorem dL_law_397 : decode cL_law 397 = .ok (.iadd, 1) := by decide +kernel
theorem dL_law_398 : decode cL_law 398 = .ok (.iaload, 1) := by decide +kernel
theorem dL_law_399 : decode cL_law 399 = .ok (.aload_n 0, 1) := by decide +kernel
theorem dL_law_400 : decode cL_law 400 = .ok (.iload_n 3, 1) := by decide +kernel
theorem dL_law_401 : decode cL_law 401 = .ok (.iconst 4, 1) := by decide +kernel
theorem dL_law_402 : decode cL_law 402 = .ok (.iadd, 1) := by decide +kernel
theorem dL_law_403 : decode cL_law 403 = .ok (.iaload, 1) := by decide +kernel
theorem dL_law_404 : decode cL_law 404 = .ok (.invokevirtual 52, 3) := by decide +kernel
theorem dL_law_407 : decode cL_law 407 = .ok (.if_icmp .eq 560, 3) := by decide +kernel
theorem dL_law_410 : decode cL_law 410 = .ok (.iconst 0, 1) := by decide +kernel
theorem dL_law_411 : decode cL_law 411 = .ok (.ireturn, 1) := by decide +kernel
theorem dL_law_412 : decode cL_law 412 = .ok (.aload_n 1, 1) := by decide +kernel
theorem dL_law_413 : decode cL_law 413 = .ok (.aload_n 0, 1) := by decide +kernel
theorem dL_law_414 : decode cL_law 414 = .ok (.iload_n 3, 1) := by decide +kernel
theorem dL_law_415 : decode cL_law 415 = .ok (.iconst 1, 1) := by decide +kernel
theorem dL_law_416 : decode cL_law 416 = .ok (.iadd, 1) := by decide +kernel
theorem dL_law_417 : decode cL_law 417 = .ok (.iaload, 1) := by decide +kernel
theorem dL_law_418 : decode cL_law 418 = .ok (.aload_n 0, 1) := by decide +kernel
theorem dL_law_419 : decode cL_law 419 = .ok (.iload_n 3, 1) := by decide +kernel
theorem dL_law_420 : decode cL_law 420 = .ok (.iconst 2, 1) := by decide +kernel
theorem dL_law_421 : decode cL_law 421 = .ok (.iadd, 1) := by decide +kernel
theorem dL_law_422 : decode cL_law 422 = .ok (.iaload, 1) := by decide +kernel
theorem dL_law_423 : decode cL_law 423 = .ok (.aload_n 0, 1) := by decide +kernel
theorem dL_law_424 : decode cL_law 424 = .ok (.iload_n 3, 1) := by decide +kernel
theorem dL_law_425 : decode cL_law 425 = .ok (.iconst 3, 1) := by decide +kernel
theorem dL_law_426 : decode cL_law 426 = .ok (.iadd, 1) := by decide +kernel
theorem dL_law_427 : decode cL_law 427 = .ok (.iaload, 1) := by decide +kernel
theorem dL_law_428 : decode cL_law 428 = .ok (.invokevirtual 53, 3) := by decide +kernel
theorem dL_law_431 : decode cL_law 431 = .ok (.aload_n 2, 1) := by decide +kernel
theorem dL_law_432 : decode cL_law 432 = .ok (.aload_n 0, 1) := by decide +kernel
theorem dL_law_433 : decode cL_law 433 = .ok (.iload_n 3, 1) := by decide +kernel
theorem dL_law_434 : decode cL_law 434 = .ok (.iconst 1, 1) := by decide +kernel
theorem dL_law_435 : decode cL_law 435 = .ok (.iadd, 1) := by decide +kernel
theorem dL_law_436 : decode cL_law 436 = .ok (.iaload, 1) := by decide +kernel
theorem dL_law_437 : decode cL_law 437 = .ok (.aload_n 0, 1) := by decide +kernel
theorem dL_law_438 : decode cL_law 438 = .ok (.iload_n 3, 1) := by decide +kernel
theorem dL_law_439 : decode cL_law 439 = .ok (.iconst 2, 1) := by decide +kernel
theorem dL_law_440 : decode cL_law 440 = .ok (.iadd, 1) := by decide +kernel
theorem dL_law_441 : decode cL_law 441 = .ok (.iaload, 1) := by decide +kernel
theorem dL_law_442 : decode cL_law 442 = .ok (.aload_n 0, 1) := by decide +kernel
theorem dL_law_443 : decode cL_law 443 = .ok (.iload_n 3, 1) := by decide +kernel
theorem dL_law_444 : decode cL_law 444 = .ok (.iconst 3, 1) := by decide +kernel
theorem dL_law_445 : decode cL_law 445 = .ok (.iadd, 1) := by decide +kernel
theorem dL_law_446 : decode cL_law 446 = .ok (.iaload, 1) := by decide +kernel
theorem dL_law_447 : decode cL_law 447 = .ok (.invokevirtual 57, 3) := by decide +kernel
theorem dL_law_450 : decode cL_law 450 = .ok (.if_icmp .eq 517, 3) := by decide +kernel
theorem dL_law_453 : decode cL_law 453 = .ok (.iconst 0, 1) := by decide +kernel
theorem dL_law_454 : decode cL_law 454 = .ok (.ireturn, 1) := by decide +kernel
theorem dL_law_455 : decode cL_law 455 = .ok (.aload_n 1, 1) := by decide +kernel
theorem dL_law_456 : decode cL_law 456 = .ok (.aload_n 0, 1) := by decide +kernel
theorem dL_law_457 : decode cL_law 457 = .ok (.iload_n 3, 1) := by decide +kernel
theorem dL_law_458 : decode cL_law 458 = .ok (.iconst 1, 1) := by decide +kernel
theorem dL_law_459 : decode cL_law 459 = .ok (.iadd, 1) := by decide +kernel
theorem dL_law_460 : decode cL_law 460 = .ok (.iaload, 1) := by decide +kernel
theorem dL_law_461 : decode cL_law 461 = .ok (.aload_n 0, 1) := by decide +kernel
theorem dL_law_462 : decode cL_law 462 = .ok (.iload_n 3, 1) := by decide +kernel
theorem dL_law_463 : decode cL_law 463 = .ok (.iconst 2, 1) := by decide +kernel
theorem dL_law_464 : decode cL_law 464 = .ok (.iadd, 1) := by decide +kernel
theorem dL_law_465 : decode cL_law 465 = .ok (.iaload, 1) := by decide +kernel
theorem dL_law_466 : decode cL_law 466 = .ok (.invokevirtual 58, 3) := by decide +kernel
theorem dL_law_469 : decode cL_law 469 = .ok (.aload_n 2, 1) := by decide +kernel
theorem dL_law_470 : decode cL_law 470 = .ok (.aload_n 0, 1) := by decide +kernel
theorem dL_law_471 : decode cL_law 471 = .ok (.iload_n 3, 1) := by decide +kernel
theorem dL_law_472 : decode cL_law 472 = .ok (.iconst 1, 1) := by decide +kernel
theorem dL_law_473 : decode cL_law 473 = .ok (.iadd, 1) := by decide +kernel
theorem dL_law_474 : decode cL_law 474 = .ok (.iaload, 1) := by decide +kernel
theorem dL_law_475 : decode cL_law 475 = .ok (.aload_n 0, 1) := by decide +kernel
theorem dL_law_476 : decode cL_law 476 = .ok (.iload_n 3, 1) := by decide +kernel
theorem dL_law_477 : decode cL_law 477 = .ok (.iconst 2, 1) := by decide +kernel
theorem dL_law_478 : decode cL_law 478 = .ok (.iadd, 1) := by decide +kernel
theorem dL_law_479 : decode cL_law 479 = .ok (.iaload, 1) := by decide +kernel
theorem dL_law_480 : decode cL_law 480 = .ok (.invokevirtual 61, 3) := by decide +kernel
theorem dL_law_483 : decode cL_law 483 = .ok (.if_icmp .eq 484, 3) := by decide +kernel
theorem dL_law_486 : decode cL_law 486 = .ok (.iconst 0, 1) := by decide +kernel
theorem dL_law_487 : decode cL_law 487 = .ok (.ireturn, 1) := by decide +kernel
theorem dL_law_488 : decode cL_law 488 = .ok (.aload_n 1, 1) := by decide +kernel
theorem dL_law_489 : decode cL_law 489 = .ok (.aload_n 0, 1) := by decide +kernel
theorem dL_law_490 : decode cL_law 490 = .ok (.iload_n 3, 1) := by decide +kernel
theorem dL_law_491 : decode cL_law 491 = .ok (.iconst 1, 1) := by decide +kernel
theorem dL_law_492 : decode cL_law 492 = .ok (.iadd, 1) := by decide +kernel
theorem dL_law_493 : decode cL_law 493 = .ok (.iaload, 1) := by decide +kernel
theorem dL_law_494 : decode cL_law 494 = .ok (.aload_n 0, 1) := by decide +kernel
theorem dL_law_495 : decode cL_law 495 = .ok (.iload_n 3, 1) := by decide +kernel
theorem dL_law_496 : decode cL_law 496 = .ok (.iconst 2, 1) := by decide +kernel
theorem dL_law_497 : decode cL_law 497 = .ok (.iadd, 1) := by decide +kernel
theorem dL_law_498 : decode cL_law 498 = .ok (.iaload, 1) := by decide +kernel
theorem dL_law_499 : decode cL_law 499 = .ok (.invokevirtual 62, 3) := by decide +kernel
theorem dL_law_502 : decode cL_law 502 = .ok (.aload_n 2, 1) := by decide +kernel
theorem dL_law_503 : decode cL_law 503 = .ok (.aload_n 0, 1) := by decide +kernel
theorem dL_law_504 : decode cL_law 504 = .ok (.iload_n 3, 1) := by decide +kernel
theorem dL_law_505 : decode cL_law 505 = .ok (.iconst 1, 1) := by decide +kernel
theorem dL_law_506 : decode cL_law 506 = .ok (.iadd, 1) := by decide +kernel
theorem dL_law_507 : decode cL_law 507 = .ok (.iaload, 1) := by decide +kernel
theorem dL_law_508 : decode cL_law 508 = .ok (.aload_n 0, 1) := by decide +kernel
theorem dL_law_509 : decode cL_law 509 = .ok (.iload_n 3, 1) := by decide +kernel
theorem dL_law_510 : decode cL_law 510 = .ok (.iconst 2, 1) := by decide +kernel
theorem dL_law_511 : decode cL_law 511 = .ok (.iadd, 1) := by decide +kernel
theorem dL_law_512 : decode cL_law 512 = .ok (.iaload, 1) := by decide +kernel
theorem dL_law_513 : decode cL_law 513 = .ok (.invokevirtual 65, 3) := by decide +kernel
theorem dL_law_516 : decode cL_law 516 = .ok (.if_icmp .eq 451, 3) := by decide +kernel
theorem dL_law_519 : decode cL_law 519 = .ok (.iconst 0, 1) := by decide +kernel
theorem dL_law_520 : decode cL_law 520 = .ok (.ireturn, 1) := by decide +kernel
theorem dL_law_521 : decode cL_law 521 = .ok (.aload_n 1, 1) := by decide +kernel
theorem dL_law_522 : decode cL_law 522 = .ok (.invokevirtual 66, 3) := by decide +kernel
theorem dL_law_525 : decode cL_law 525 = .ok (.aload_n 2, 1) := by decide +kernel
theorem dL_law_526 : decode cL_law 526 = .ok (.invokevirtual 69, 3) := by decide +kernel
theorem dL_law_529 : decode cL_law 529 = .ok (.if_icmp .eq 438, 3) := by decide +kernel
theorem dL_law_532 : decode cL_law 532 = .ok (.iconst 0, 1) := by decide +kernel
theorem dL_law_533 : decode cL_law 533 = .ok (.ireturn, 1) := by decide +kernel
theorem dL_law_534 : decode cL_law 534 = .ok (.aload_n 1, 1) := by decide +kernel
theorem dL_law_535 : decode cL_law 535 = .ok (.aload_n 0, 1) := by decide +kernel
theorem dL_law_536 : decode cL_law 536 = .ok (.iload_n 3, 1) := by decide +kernel
theorem dL_law_537 : decode cL_law 537 = .ok (.iconst 1, 1) := by decide +kernel
theorem dL_law_538 : decode cL_law 538 = .ok (.iadd, 1) := by decide +kernel
theorem dL_law_539 : decode cL_law 539 = .ok (.iaload, 1) := by decide +kernel
theorem dL_law_540 : decode cL_law 540 = .ok (.aload_n 0, 1) := by decide +kernel
theorem dL_law_541 : decode cL_law 541 = .ok (.iload_n 3, 1) := by decide +kernel
theorem dL_law_542 : decode cL_law 542 = .ok (.iconst 2, 1) := by decide +kernel
theorem dL_law_543 : decode cL_law 543 = .ok (.iadd, 1) := by decide +kernel
theorem dL_law_544 : decode cL_law 544 = .ok (.iaload, 1) := by decide +kernel
theorem dL_law_545 : decode cL_law 545 = .ok (.invokevirtual 70, 3) := by decide +kernel
theorem dL_law_548 : decode cL_law 548 = .ok (.aload_n 2, 1) := by decide +kernel
theorem dL_law_549 : decode cL_law 549 = .ok (.aload_n 0, 1) := by decide +kernel
theorem dL_law_550 : decode cL_law 550 = .ok (.iload_n 3, 1) := by decide +kernel
theorem dL_law_551 : decode cL_law 551 = .ok (.iconst 1, 1) := by decide +kernel
theorem dL_law_552 : decode cL_law 552 = .ok (.iadd, 1) := by decide +kernel
theorem dL_law_553 : decode cL_law 553 = .ok (.iaload, 1) := by decide +kernel
theorem dL_law_554 : decode cL_law 554 = .ok (.aload_n 0, 1) := by decide +kernel
theorem dL_law_555 : decode cL_law 555 = .ok (.iload_n 3, 1) := by decide +kernel
theorem dL_law_556 : decode cL_law 556 = .ok (.iconst 2, 1) := by decide +kernel
theorem dL_law_557 : decode cL_law 557 = .ok (.iadd, 1) := by decide +kernel
theorem dL_law_558 : decode cL_law 558 = .ok (.iaload, 1) := by decide +kernel
theorem dL_law_559 : decode cL_law 559 = .ok (.invokevirtual 73, 3) := by decide +kernel
theorem dL_law_562 : decode cL_law 562 = .ok (.if_icmp .eq 405, 3) := by decide +kernel
theorem dL_law_565 : decode cL_law 565 = .ok (.iconst 0, 1) := by decide +kernel
theorem dL_law_566 : decode cL_law 566 = .ok (.ireturn, 1) := by decide +kernel
theorem dL_law_567 : decode cL_law 567 = .ok (.aload_n 1, 1) := by decide +kernel
theorem dL_law_568 : decode cL_law 568 = .ok (.aload_n 0, 1) := by decide +kernel
theorem dL_law_569 : decode cL_law 569 = .ok (.iload_n 3, 1) := by decide +kernel
theorem dL_law_570 : decode cL_law 570 = .ok (.iconst 1, 1) := by decide +kernel
theorem dL_law_571 : decode cL_law 571 = .ok (.iadd, 1) := by decide +kernel
theorem dL_law_572 : decode cL_law 572 = .ok (.iaload, 1) := by decide +kernel
theorem dL_law_573 : decode cL_law 573 = .ok (.aload_n 0, 1) := by decide +kernel
theorem dL_law_574 : decode cL_law 574 = .ok (.iload_n 3, 1) := by decide +kernel
theorem dL_law_575 : decode cL_law 575 = .ok (.iconst 2, 1) := by decide +kernel
theorem dL_law_576 : decode cL_law 576 = .ok (.iadd, 1) := by decide +kernel
theorem dL_law_577 : decode cL_law 577 = .ok (.iaload, 1) := by decide +kernel
theorem dL_law_578 : decode cL_law 578 = .ok (.invokevirtual 74, 3) := by decide +kernel
theorem dL_law_581 : decode cL_law 581 = .ok (.aload_n 2, 1) := by decide +kernel
theorem dL_law_582 : decode cL_law 582 = .ok (.aload_n 0, 1) := by decide +kernel
theorem dL_law_583 : decode cL_law 583 = .ok (.iload_n 3, 1) := by decide +kernel
theorem dL_law_584 : decode cL_law 584 = .ok (.iconst 1, 1) := by decide +kernel
theorem dL_law_585 : decode cL_law 585 = .ok (.iadd, 1) := by decide +kernel
theorem dL_law_586 : decode cL_law 586 = .ok (.iaload, 1) := by decide +kernel
theorem dL_law_587 : decode cL_law 587 = .ok (.aload_n 0, 1) := by decide +kernel
theorem dL_law_588 : decode cL_law 588 = .ok (.iload_n 3, 1) := by decide +kernel
theorem dL_law_589 : decode cL_law 589 = .ok (.iconst 2, 1) := by decide +kernel
theorem dL_law_590 : decode cL_law 590 = .ok (.iadd, 1) := by decide +kernel
theorem dL_law_591 : decode cL_law 591 = .ok (.iaload, 1) := by decide +kernel
theorem dL_law_592 : decode cL_law 592 = .ok (.invokevirtual 77, 3) := by decide +kernel
theorem dL_law_595 : decode cL_law 595 = .ok (.if_icmp .eq 372, 3) := by decide +kernel
theorem dL_law_598 : decode cL_law 598 = .ok (.iconst 0, 1) := by decide +kernel
theorem dL_law_599 : decode cL_law 599 = .ok (.ireturn, 1) := by decide +kernel
theorem dL_law_600 : decode cL_law 600 = .ok (.aload_n 1, 1) := by decide +kernel
theorem dL_law_601 : decode cL_law 601 = .ok (.aload_n 0, 1) := by decide +kernel
theorem dL_law_602 : decode cL_law 602 = .ok (.iload_n 3, 1) := by decide +kernel
theorem dL_law_603 : decode cL_law 603 = .ok (.iconst 1, 1) := by decide +kernel
theorem dL_law_604 : decode cL_law 604 = .ok (.iadd, 1) := by decide +kernel
theorem dL_law_605 : decode cL_law 605 = .ok (.iaload, 1) := by decide +kernel
theorem dL_law_606 : decode cL_law 606 = .ok (.aload_n 0, 1) := by decide +kernel
theorem dL_law_607 : decode cL_law 607 = .ok (.iload_n 3, 1) := by decide +kernel
theorem dL_law_608 : decode cL_law 608 = .ok (.iconst 2, 1) := by decide +kernel
theorem dL_law_609 : decode cL_law 609 = .ok (.iadd, 1) := by decide +kernel
theorem dL_law_610 : decode cL_law 610 = .ok (.iaload, 1) := by decide +kernel
theorem dL_law_611 : decode cL_law 611 = .ok (.invokevirtual 78, 3) := by decide +kernel
theorem dL_law_614 : decode cL_law 614 = .ok (.aload_n 2, 1) := by decide +kernel
theorem dL_law_615 : decode cL_law 615 = .ok (.aload_n 0, 1) := by decide +kernel
theorem dL_law_616 : decode cL_law 616 = .ok (.iload_n 3, 1) := by decide +kernel
theorem dL_law_617 : decode cL_law 617 = .ok (.iconst 1, 1) := by decide +kernel
theorem dL_law_618 : decode cL_law 618 = .ok (.iadd, 1) := by decide +kernel
theorem dL_law_619 : decode cL_law 619 = .ok (.iaload, 1) := by decide +kernel
theorem dL_law_620 : decode cL_law 620 = .ok (.aload_n 0, 1) := by decide +kernel
theorem dL_law_621 : decode cL_law 621 = .ok (.iload_n 3, 1) := by decide +kernel
theorem dL_law_622 : decode cL_law 622 = .ok (.iconst 2, 1) := by decide +kernel
theorem dL_law_623 : decode cL_law 623 = .ok (.iadd, 1) := by decide +kernel
theorem dL_law_624 : decode cL_law 624 = .ok (.iaload, 1) := by decide +kernel
theorem dL_law_625 : decode cL_law 625 = .ok (.invokevirtual 81, 3) := by decide +kernel
theorem dL_law_628 : decode cL_law 628 = .ok (.if_icmp .eq 339, 3) := by decide +kernel
theorem dL_law_631 : decode cL_law 631 = .ok (.iconst 0, 1) := by decide +kernel
theorem dL_law_632 : decode cL_law 632 = .ok (.ireturn, 1) := by decide +kernel
theorem dL_law_633 : decode cL_law 633 = .ok (.aload_n 1, 1) := by decide +kernel
theorem dL_law_634 : decode cL_law 634 = .ok (.aload_n 0, 1) := by decide +kernel
theorem dL_law_635 : decode cL_law 635 = .ok (.iload_n 3, 1) := by decide +kernel
theorem dL_law_636 : decode cL_law 636 = .ok (.iconst 1, 1) := by decide +kernel
theorem dL_law_637 : decode cL_law 637 = .ok (.iadd, 1) := by decide +kernel
theorem dL_law_638 : decode cL_law 638 = .ok (.iaload, 1) := by decide +kernel
theorem dL_law_639 : decode cL_law 639 = .ok (.aload_n 0, 1) := by decide +kernel
theorem dL_law_640 : decode cL_law 640 = .ok (.iload_n 3, 1) := by decide +kernel
theorem dL_law_641 : decode cL_law 641 = .ok (.iconst 2, 1) := by decide +kernel
theorem dL_law_642 : decode cL_law 642 = .ok (.iadd, 1) := by decide +kernel
theorem dL_law_643 : decode cL_law 643 = .ok (.iaload, 1) := by decide +kernel
theorem dL_law_644 : decode cL_law 644 = .ok (.invokevirtual 82, 3) := by decide +kernel
theorem dL_law_647 : decode cL_law 647 = .ok (.aload_n 2, 1) := by decide +kernel
theorem dL_law_648 : decode cL_law 648 = .ok (.aload_n 0, 1) := by decide +kernel
theorem dL_law_649 : decode cL_law 649 = .ok (.iload_n 3, 1) := by decide +kernel
theorem dL_law_650 : decode cL_law 650 = .ok (.iconst 1, 1) := by decide +kernel
theorem dL_law_651 : decode cL_law 651 = .ok (.iadd, 1) := by decide +kernel
theorem dL_law_652 : decode cL_law 652 = .ok (.iaload, 1) := by decide +kernel
theorem dL_law_653 : decode cL_law 653 = .ok (.aload_n 0, 1) := by decide +kernel
theorem dL_law_654 : decode cL_law 654 = .ok (.iload_n 3, 1) := by decide +kernel
theorem dL_law_655 : decode cL_law 655 = .ok (.iconst 2, 1) := by decide +kernel
theorem dL_law_656 : decode cL_law 656 = .ok (.iadd, 1) := by decide +kernel
theorem dL_law_657 : decode cL_law 657 = .ok (.iaload, 1) := by decide +kernel
theorem dL_law_658 : decode cL_law 658 = .ok (.invokevirtual 85, 3) := by decide +kernel
theorem dL_law_661 : decode cL_law 661 = .ok (.if_icmp .eq 306, 3) := by decide +kernel
theorem dL_law_664 : decode cL_law 664 = .ok (.iconst 0, 1) := by decide +kernel
theorem dL_law_665 : decode cL_law 665 = .ok (.ireturn, 1) := by decide +kernel
theorem dL_law_666 : decode cL_law 666 = .ok (.aload_n 1, 1) := by decide +kernel
theorem dL_law_667 : decode cL_law 667 = .ok (.aload_n 0, 1) := by decide +kernel
theorem dL_law_668 : decode cL_law 668 = .ok (.iload_n 3, 1) := by decide +kernel
theorem dL_law_669 : decode cL_law 669 = .ok (.iconst 1, 1) := by decide +kernel
theorem dL_law_670 : decode cL_law 670 = .ok (.iadd, 1) := by decide +kernel
theorem dL_law_671 : decode cL_law 671 = .ok (.iaload, 1) := by decide +kernel
theorem dL_law_672 : decode cL_law 672 = .ok (.invokevirtual 86, 3) := by decide +kernel
theorem dL_law_675 : decode cL_law 675 = .ok (.aload_n 2, 1) := by decide +kernel
theorem dL_law_676 : decode cL_law 676 = .ok (.aload_n 0, 1) := by decide +kernel
theorem dL_law_677 : decode cL_law 677 = .ok (.iload_n 3, 1) := by decide +kernel
theorem dL_law_678 : decode cL_law 678 = .ok (.iconst 1, 1) := by decide +kernel
theorem dL_law_679 : decode cL_law 679 = .ok (.iadd, 1) := by decide +kernel
theorem dL_law_680 : decode cL_law 680 = .ok (.iaload, 1) := by decide +kernel
theorem dL_law_681 : decode cL_law 681 = .ok (.invokevirtual 89, 3) := by decide +kernel
theorem dL_law_684 : decode cL_law 684 = .ok (.if_icmp .eq 283, 3) := by decide +kernel
theorem dL_law_687 : decode cL_law 687 = .ok (.iconst 0, 1) := by decide +kernel
theorem dL_law_688 : decode cL_law 688 = .ok (.ireturn, 1) := by decide +kernel
theorem dL_law_689 : decode cL_law 689 = .ok (.aload_n 1, 1) := by decide +kernel
theorem dL_law_690 : decode cL_law 690 = .ok (.aload_n 0, 1) := by decide +kernel
theorem dL_law_691 : decode cL_law 691 = .ok (.iload_n 3, 1) := by decide +kernel
theorem dL_law_692 : decode cL_law 692 = .ok (.iconst 1, 1) := by decide +kernel
theorem dL_law_693 : decode cL_law 693 = .ok (.iadd, 1) := by decide +kernel
theorem dL_law_694 : decode cL_law 694 = .ok (.iaload, 1) := by decide +kernel
theorem dL_law_695 : decode cL_law 695 = .ok (.invokevirtual 90, 3) := by decide +kernel
theorem dL_law_698 : decode cL_law 698 = .ok (.aload_n 2, 1) := by decide +kernel
theorem dL_law_699 : decode cL_law 699 = .ok (.aload_n 0, 1) := by decide +kernel
theorem dL_law_700 : decode cL_law 700 = .ok (.iload_n 3, 1) := by decide +kernel
theorem dL_law_701 : decode cL_law 701 = .ok (.iconst 1, 1) := by decide +kernel
theorem dL_law_702 : decode cL_law 702 = .ok (.iadd, 1) := by decide +kernel
theorem dL_law_703 : decode cL_law 703 = .ok (.iaload, 1) := by decide +kernel
theorem dL_law_704 : decode cL_law 704 = .ok (.invokevirtual 93, 3) := by decide +kernel
theorem dL_law_707 : decode cL_law 707 = .ok (.if_icmp .eq 260, 3) := by decide +kernel
theorem dL_law_710 : decode cL_law 710 = .ok (.iconst 0, 1) := by decide +kernel
theorem dL_law_711 : decode cL_law 711 = .ok (.ireturn, 1) := by decide +kernel
theorem dL_law_712 : decode cL_law 712 = .ok (.aload_n 1, 1) := by decide +kernel
theorem dL_law_713 : decode cL_law 713 = .ok (.aload_n 0, 1) := by decide +kernel
theorem dL_law_714 : decode cL_law 714 = .ok (.iload_n 3, 1) := by decide +kernel
theorem dL_law_715 : decode cL_law 715 = .ok (.iconst 1, 1) := by decide +kernel
theorem dL_law_716 : decode cL_law 716 = .ok (.iadd, 1) := by decide +kernel
theorem dL_law_717 : decode cL_law 717 = .ok (.iaload, 1) := by decide +kernel
theorem dL_law_718 : decode cL_law 718 = .ok (.aload_n 0, 1) := by decide +kernel
theorem dL_law_719 : decode cL_law 719 = .ok (.iload_n 3, 1) := by decide +kernel
theorem dL_law_720 : decode cL_law 720 = .ok (.iconst 2, 1) := by decide +kernel
theorem dL_law_721 : decode cL_law 721 = .ok (.iadd, 1) := by decide +kernel
theorem dL_law_722 : decode cL_law 722 = .ok (.iaload, 1) := by decide +kernel
theorem dL_law_723 : decode cL_law 723 = .ok (.aload_n 0, 1) := by decide +kernel
theorem dL_law_724 : decode cL_law 724 = .ok (.iload_n 3, 1) := by decide +kernel
theorem dL_law_725 : decode cL_law 725 = .ok (.iconst 3, 1) := by decide +kernel
theorem dL_law_726 : decode cL_law 726 = .ok (.iadd, 1) := by decide +kernel
theorem dL_law_727 : decode cL_law 727 = .ok (.iaload, 1) := by decide +kernel
theorem dL_law_728 : decode cL_law 728 = .ok (.aload_n 0, 1) := by decide +kernel
theorem dL_law_729 : decode cL_law 729 = .ok (.iload_n 3, 1) := by decide +kernel
theorem dL_law_730 : decode cL_law 730 = .ok (.iconst 4, 1) := by decide +kernel
theorem dL_law_731 : decode cL_law 731 = .ok (.iadd, 1) := by decide +kernel
theorem dL_law_732 : decode cL_law 732 = .ok (.iaload, 1) := by decide +kernel
theorem dL_law_733 : decode cL_law 733 = .ok (.invokevirtual 94, 3) := by decide +kernel
theorem dL_law_736 : decode cL_law 736 = .ok (.aload_n 2, 1) := by decide +kernel
theorem dL_law_737 : decode cL_law 737 = .ok (.aload_n 0, 1) := by decide +kernel
theorem dL_law_738 : decode cL_law 738 = .ok (.iload_n 3, 1) := by decide +kernel
theorem dL_law_739 : decode cL_law 739 = .ok (.iconst 1, 1) := by decide +kernel
theorem dL_law_740 : decode cL_law 740 = .ok (.iadd, 1) := by decide +kernel
theorem dL_law_741 : decode cL_law 741 = .ok (.iaload, 1) := by decide +kernel
theorem dL_law_742 : decode cL_law 742 = .ok (.aload_n 0, 1) := by decide +kernel
theorem dL_law_743 : decode cL_law 743 = .ok (.iload_n 3, 1) := by decide +kernel
theorem dL_law_744 : decode cL_law 744 = .ok (.iconst 2, 1) := by decide +kernel
theorem dL_law_745 : decode cL_law 745 = .ok (.iadd, 1) := by decide +kernel
theorem dL_law_746 : decode cL_law 746 = .ok (.iaload, 1) := by decide +kernel
theorem dL_law_747 : decode cL_law 747 = .ok (.aload_n 0, 1) := by decide +kernel
theorem dL_law_748 : decode cL_law 748 = .ok (.iload_n 3, 1) := by decide +kernel
theorem dL_law_749 : decode cL_law 749 = .ok (.iconst 3, 1) := by decide +kernel
theorem dL_law_750 : decode cL_law 750 = .ok (.iadd, 1) := by decide +kernel
theorem dL_law_751 : decode cL_law 751 = .ok (.iaload, 1) := by decide +kernel
theorem dL_law_752 : decode cL_law 752 = .ok (.aload_n 0, 1) := by decide +kernel
theorem dL_law_753 : decode cL_law 753 = .ok (.iload_n 3, 1) := by decide +kernel
theorem dL_law_754 : decode cL_law 754 = .ok (.iconst 4, 1) := by decide +kernel
theorem dL_law_755 : decode cL_law 755 = .ok (.iadd, 1) := by decide +kernel
theorem dL_law_756 : decode cL_law 756 = .ok (.iaload, 1) := by decide +kernel
theorem dL_law_757 : decode cL_law 757 = .ok (.invokevirtual 98, 3) := by decide +kernel
theorem dL_law_760 : decode cL_law 760 = .ok (.lcmp, 1) := by decide +kernel
theorem dL_law_761 : decode cL_law 761 = .ok (.ifCond .eq 206, 3) := by decide +kernel
theorem dL_law_764 : decode cL_law 764 = .ok (.iconst 0, 1) := by decide +kernel
theorem dL_law_765 : decode cL_law 765 = .ok (.ireturn, 1) := by decide +kernel
theorem dL_law_766 : decode cL_law 766 = .ok (.aload_n 1, 1) := by decide +kernel
theorem dL_law_767 : decode cL_law 767 = .ok (.aload_n 0, 1) := by decide +kernel
theorem dL_law_768 : decode cL_law 768 = .ok (.iload_n 3, 1) := by decide +kernel
theorem dL_law_769 : decode cL_law 769 = .ok (.iconst 1, 1) := by decide +kernel
theorem dL_law_770 : decode cL_law 770 = .ok (.iadd, 1) := by decide +kernel
theorem dL_law_771 : decode cL_law 771 = .ok (.iaload, 1) := by decide +kernel
theorem dL_law_772 : decode cL_law 772 = .ok (.aload_n 0, 1) := by decide +kernel
theorem dL_law_773 : decode cL_law 773 = .ok (.iload_n 3, 1) := by decide +kernel
theorem dL_law_774 : decode cL_law 774 = .ok (.iconst 2, 1) := by decide +kernel
theorem dL_law_775 : decode cL_law 775 = .ok (.iadd, 1) := by decide +kernel
theorem dL_law_776 : decode cL_law 776 = .ok (.iaload, 1) := by decide +kernel
theorem dL_law_777 : decode cL_law 777 = .ok (.aload_n 0, 1) := by decide +kernel
theorem dL_law_778 : decode cL_law 778 = .ok (.iload_n 3, 1) := by decide +kernel
theorem dL_law_779 : decode cL_law 779 = .ok (.iconst 3, 1) := by decide +kernel
theorem dL_law_780 : decode cL_law 780 = .ok (.iadd, 1) := by decide +kernel
theorem dL_law_781 : decode cL_law 781 = .ok (.iaload, 1) := by decide +kernel
theorem dL_law_782 : decode cL_law 782 = .ok (.invokevirtual 99, 3) := by decide +kernel
theorem dL_law_785 : decode cL_law 785 = .ok (.aload_n 2, 1) := by decide +kernel
theorem dL_law_786 : decode cL_law 786 = .ok (.aload_n 0, 1) := by decide +kernel
theorem dL_law_787 : decode cL_law 787 = .ok (.iload_n 3, 1) := by decide +kernel
theorem dL_law_788 : decode cL_law 788 = .ok (.iconst 1, 1) := by decide +kernel
theorem dL_law_789 : decode cL_law 789 = .ok (.iadd, 1) := by decide +kernel
theorem dL_law_790 : decode cL_law 790 = .ok (.iaload, 1) := by decide +kernel
theorem dL_law_791 : decode cL_law 791 = .ok (.aload_n 0, 1) := by decide +kernel
theorem dL_law_792 : decode cL_law 792 = .ok (.iload_n 3, 1) := by decide +kernel
theorem dL_law_793 : decode cL_law 793 = .ok (.iconst 2, 1) := by decide +kernel
theorem dL_law_794 : decode cL_law 794 = .ok (.iadd, 1) := by decide +kernel
theorem dL_law_795 : decode cL_law 795 = .ok (.iaload, 1) := by decide +kernel
theorem dL_law_796 : decode cL_law 796 = .ok (.aload_n 0, 1) := by decide +kernel
theorem dL_law_797 : decode cL_law 797 = .ok (.iload_n 3, 1) := by decide +kernel
theorem dL_law_798 : decode cL_law 798 = .ok (.iconst 3, 1) := by decide +kernel
theorem dL_law_799 : decode cL_law 799 = .ok (.iadd, 1) := by decide +kernel
theorem dL_law_800 : decode cL_law 800 = .ok (.iaload, 1) := by decide +kernel
theorem dL_law_801 : decode cL_law 801 = .ok (.invokevirtual 102, 3) := by decide +kernel
theorem dL_law_804 : decode cL_law 804 = .ok (.if_icmp .eq 163, 3) := by decide +kernel
theorem dL_law_807 : decode cL_law 807 = .ok (.iconst 0, 1) := by decide +kernel
theorem dL_law_808 : decode cL_law 808 = .ok (.ireturn, 1) := by decide +kernel
theorem dL_law_809 : decode cL_law 809 = .ok (.aload_n 1, 1) := by decide +kernel
theorem dL_law_810 : decode cL_law 810 = .ok (.aload_n 0, 1) := by decide +kernel
theorem dL_law_811 : decode cL_law 811 = .ok (.iload_n 3, 1) := by decide +kernel
theorem dL_law_812 : decode cL_law 812 = .ok (.iconst 1, 1) := by decide +kernel
theorem dL_law_813 : decode cL_law 813 = .ok (.iadd, 1) := by decide +kernel
theorem dL_law_814 : decode cL_law 814 = .ok (.iaload, 1) := by decide +kernel
theorem dL_law_815 : decode cL_law 815 = .ok (.aload_n 0, 1) := by decide +kernel
theorem dL_law_816 : decode cL_law 816 = .ok (.iload_n 3, 1) := by decide +kernel
theorem dL_law_817 : decode cL_law 817 = .ok (.iconst 2, 1) := by decide +kernel
theorem dL_law_818 : decode cL_law 818 = .ok (.iadd, 1) := by decide +kernel
theorem dL_law_819 : decode cL_law 819 = .ok (.iaload, 1) := by decide +kernel
theorem dL_law_820 : decode cL_law 820 = .ok (.aload_n 0, 1) := by decide +kernel
theorem dL_law_821 : decode cL_law 821 = .ok (.iload_n 3, 1) := by decide +kernel
theorem dL_law_822 : decode cL_law 822 = .ok (.iconst 3, 1) := by decide +kernel
theorem dL_law_823 : decode cL_law 823 = .ok (.iadd, 1) := by decide +kernel
theorem dL_law_824 : decode cL_law 824 = .ok (.iaload, 1) := by decide +kernel
theorem dL_law_825 : decode cL_law 825 = .ok (.invokevirtual 103, 3) := by decide +kernel
theorem dL_law_828 : decode cL_law 828 = .ok (.aload_n 2, 1) := by decide +kernel
theorem dL_law_829 : decode cL_law 829 = .ok (.aload_n 0, 1) := by decide +kernel
theorem dL_law_830 : decode cL_law 830 = .ok (.iload_n 3, 1) := by decide +kernel
theorem dL_law_831 : decode cL_law 831 = .ok (.iconst 1, 1) := by decide +kernel
theorem dL_law_832 : decode cL_law 832 = .ok (.iadd, 1) := by decide +kernel
theorem dL_law_833 : decode cL_law 833 = .ok (.iaload, 1) := by decide +kernel
theorem dL_law_834 : decode cL_law 834 = .ok (.aload_n 0, 1) := by decide +kernel
theorem dL_law_835 : decode cL_law 835 = .ok (.iload_n 3, 1) := by decide +kernel
theorem dL_law_836 : decode cL_law 836 = .ok (.iconst 2, 1) := by decide +kernel
theorem dL_law_837 : decode cL_law 837 = .ok (.iadd, 1) := by decide +kernel
theorem dL_law_838 : decode cL_law 838 = .ok (.iaload, 1) := by decide +kernel
theorem dL_law_839 : decode cL_law 839 = .ok (.aload_n 0, 1) := by decide +kernel
theorem dL_law_840 : decode cL_law 840 = .ok (.iload_n 3, 1) := by decide +kernel
theorem dL_law_841 : decode cL_law 841 = .ok (.iconst 3, 1) := by decide +kernel
theorem dL_law_842 : decode cL_law 842 = .ok (.iadd, 1) := by decide +kernel
theorem dL_law_843 : decode cL_law 843 = .ok (.iaload, 1) := by decide +kernel
theorem dL_law_844 : decode cL_law 844 = .ok (.invokevirtual 106, 3) := by decide +kernel
theorem dL_law_847 : decode cL_law 847 = .ok (.if_icmp .eq 120, 3) := by decide +kernel
theorem dL_law_850 : decode cL_law 850 = .ok (.iconst 0, 1) := by decide +kernel
theorem dL_law_851 : decode cL_law 851 = .ok (.ireturn, 1) := by decide +kernel
theorem dL_law_852 : decode cL_law 852 = .ok (.aload_n 1, 1) := by decide +kernel
theorem dL_law_853 : decode cL_law 853 = .ok (.aload_n 0, 1) := by decide +kernel
theorem dL_law_854 : decode cL_law 854 = .ok (.iload_n 3, 1) := by decide +kernel
theorem dL_law_855 : decode cL_law 855 = .ok (.iconst 1, 1) := by decide +kernel
theorem dL_law_856 : decode cL_law 856 = .ok (.iadd, 1) := by decide +kernel
theorem dL_law_857 : decode cL_law 857 = .ok (.iaload, 1) := by decide +kernel
theorem dL_law_858 : decode cL_law 858 = .ok (.aload_n 0, 1) := by decide +kernel
theorem dL_law_859 : decode cL_law 859 = .ok (.iload_n 3, 1) := by decide +kernel
theorem dL_law_860 : decode cL_law 860 = .ok (.iconst 2, 1) := by decide +kernel
theorem dL_law_861 : decode cL_law 861 = .ok (.iadd, 1) := by decide +kernel
theorem dL_law_862 : decode cL_law 862 = .ok (.iaload, 1) := by decide +kernel
theorem dL_law_863 : decode cL_law 863 = .ok (.invokevirtual 107, 3) := by decide +kernel
theorem dL_law_866 : decode cL_law 866 = .ok (.aload_n 2, 1) := by decide +kernel
theorem dL_law_867 : decode cL_law 867 = .ok (.aload_n 0, 1) := by decide +kernel
theorem dL_law_868 : decode cL_law 868 = .ok (.iload_n 3, 1) := by decide +kernel
theorem dL_law_869 : decode cL_law 869 = .ok (.iconst 1, 1) := by decide +kernel
theorem dL_law_870 : decode cL_law 870 = .ok (.iadd, 1) := by decide +kernel
theorem dL_law_871 : decode cL_law 871 = .ok (.iaload, 1) := by decide +kernel
theorem dL_law_872 : decode cL_law 872 = .ok (.aload_n 0, 1) := by decide +kernel
theorem dL_law_873 : decode cL_law 873 = .ok (.iload_n 3, 1) := by decide +kernel
theorem dL_law_874 : decode cL_law 874 = .ok (.iconst 2, 1) := by decide +kernel
theorem dL_law_875 : decode cL_law 875 = .ok (.iadd, 1) := by decide +kernel
theorem dL_law_876 : decode cL_law 876 = .ok (.iaload, 1) := by decide +kernel
theorem dL_law_877 : decode cL_law 877 = .ok (.invokevirtual 110, 3) := by decide +kernel
theorem dL_law_880 : decode cL_law 880 = .ok (.if_icmp .eq 87, 3) := by decide +kernel
theorem dL_law_883 : decode cL_law 883 = .ok (.iconst 0, 1) := by decide +kernel
theorem dL_law_884 : decode cL_law 884 = .ok (.ireturn, 1) := by decide +kernel
theorem dL_law_885 : decode cL_law 885 = .ok (.aload_n 1, 1) := by decide +kernel
theorem dL_law_886 : decode cL_law 886 = .ok (.aload_n 0, 1) := by decide +kernel
theorem dL_law_887 : decode cL_law 887 = .ok (.iload_n 3, 1) := by decide +kernel
theorem dL_law_888 : decode cL_law 888 = .ok (.iconst 1, 1) := by decide +kernel
theorem dL_law_889 : decode cL_law 889 = .ok (.iadd, 1) := by decide +kernel
theorem dL_law_890 : decode cL_law 890 = .ok (.iaload, 1) := by decide +kernel
theorem dL_law_891 : decode cL_law 891 = .ok (.aload_n 0, 1) := by decide +kernel
theorem dL_law_892 : decode cL_law 892 = .ok (.iload_n 3, 1) := by decide +kernel
theorem dL_law_893 : decode cL_law 893 = .ok (.iconst 2, 1) := by decide +kernel
theorem dL_law_894 : decode cL_law 894 = .ok (.iadd, 1) := by decide +kernel
theorem dL_law_895 : decode cL_law 895 = .ok (.iaload, 1) := by decide +kernel
theorem dL_law_896 : decode cL_law 896 = .ok (.invokevirtual 111, 3) := by decide +kernel
theorem dL_law_899 : decode cL_law 899 = .ok (.aload_n 2, 1) := by decide +kernel
theorem dL_law_900 : decode cL_law 900 = .ok (.aload_n 0, 1) := by decide +kernel
theorem dL_law_901 : decode cL_law 901 = .ok (.iload_n 3, 1) := by decide +kernel
theorem dL_law_902 : decode cL_law 902 = .ok (.iconst 1, 1) := by decide +kernel
theorem dL_law_903 : decode cL_law 903 = .ok (.iadd, 1) := by decide +kernel
theorem dL_law_904 : decode cL_law 904 = .ok (.iaload, 1) := by decide +kernel
theorem dL_law_905 : decode cL_law 905 = .ok (.aload_n 0, 1) := by decide +kernel
theorem dL_law_906 : decode cL_law 906 = .ok (.iload_n 3, 1) := by decide +kernel
theorem dL_law_907 : decode cL_law 907 = .ok (.iconst 2, 1) := by decide +kernel
theorem dL_law_908 : decode cL_law 908 = .ok (.iadd, 1) := by decide +kernel
theorem dL_law_909 : decode cL_law 909 = .ok (.iaload, 1) := by decide +kernel
theorem dL_law_910 : decode cL_law 910 = .ok (.invokevirtual 114, 3) := by decide +kernel
theorem dL_law_913 : decode cL_law 913 = .ok (.if_icmp .eq 54, 3) := by decide +kernel
theorem dL_law_916 : decode cL_law 916 = .ok (.iconst 0, 1) := by decide +kernel
theorem dL_law_917 : decode cL_law 917 = .ok (.ireturn, 1) := by decide +kernel
theorem dL_law_918 : decode cL_law 918 = .ok (.aload_n 1, 1) := by decide +kernel
theorem dL_law_919 : decode cL_law 919 = .ok (.invokevirtual 115, 3) := by decide +kernel
theorem dL_law_922 : decode cL_law 922 = .ok (.aload_n 2, 1) := by decide +kernel
theorem dL_law_923 : decode cL_law 923 = .ok (.invokevirtual 118, 3) := by decide +kernel
theorem dL_law_926 : decode cL_law 926 = .ok (.if_icmp .eq 41, 3) := by decide +kernel
theorem dL_law_929 : decode cL_law 929 = .ok (.iconst 0, 1) := by decide +kernel
theorem dL_law_930 : decode cL_law 930 = .ok (.ireturn, 1) := by decide +kernel
theorem dL_law_931 : decode cL_law 931 = .ok (.aload_n 1, 1) := by decide +kernel
theorem dL_law_932 : decode cL_law 932 = .ok (.invokevirtual 119, 3) := by decide +kernel
theorem dL_law_935 : decode cL_law 935 = .ok (.aload_n 2, 1) := by decide +kernel
theorem dL_law_936 : decode cL_law 936 = .ok (.invokevirtual 122, 3) := by decide +kernel
theorem dL_law_939 : decode cL_law 939 = .ok (.if_icmp .eq 28, 3) := by decide +kernel
theorem dL_law_942 : decode cL_law 942 = .ok (.iconst 0, 1) := by decide +kernel
theorem dL_law_943 : decode cL_law 943 = .ok (.ireturn, 1) := by decide +kernel
theorem dL_law_944 : decode cL_law 944 = .ok (.aload_n 1, 1) := by decide +kernel
theorem dL_law_945 : decode cL_law 945 = .ok (.aload_n 0, 1) := by decide +kernel
theorem dL_law_946 : decode cL_law 946 = .ok (.iload_n 3, 1) := by decide +kernel
theorem dL_law_947 : decode cL_law 947 = .ok (.iconst 1, 1) := by decide +kernel
theorem dL_law_948 : decode cL_law 948 = .ok (.iadd, 1) := by decide +kernel
theorem dL_law_949 : decode cL_law 949 = .ok (.iaload, 1) := by decide +kernel
theorem dL_law_950 : decode cL_law 950 = .ok (.invokevirtual 123, 3) := by decide +kernel
theorem dL_law_953 : decode cL_law 953 = .ok (.aload_n 2, 1) := by decide +kernel
theorem dL_law_954 : decode cL_law 954 = .ok (.aload_n 0, 1) := by decide +kernel
theorem dL_law_955 : decode cL_law 955 = .ok (.iload_n 3, 1) := by decide +kernel
theorem dL_law_956 : decode cL_law 956 = .ok (.iconst 1, 1) := by decide +kernel
theorem dL_law_957 : decode cL_law 957 = .ok (.iadd, 1) := by decide +kernel
theorem dL_law_958 : decode cL_law 958 = .ok (.iaload, 1) := by decide +kernel
theorem dL_law_959 : decode cL_law 959 = .ok (.invokevirtual 126, 3) := by decide +kernel
theorem dL_law_962 : decode cL_law 962 = .ok (.if_icmp .eq 5, 3) := by decide +kernel
theorem dL_law_965 : decode cL_law 965 = .ok (.iconst 0, 1) := by decide +kernel
theorem dL_law_966 : decode cL_law 966 = .ok (.ireturn, 1) := by decide +kernel
theorem dL_law_967 : decode cL_law 967 = .ok (.iinc 3 5, 3) := by decide +kernel
theorem dL_law_970 : decode cL_law 970 = .ok (.goto (-952), 3) := by decide +kernel
theorem dL_law_973 : decode cL_law 973 = .ok (.iconst 1, 1) := by decide +kernel
theorem dL_law_974 : decode cL_law 974 = .ok (.ireturn, 1) := by decide +kernel
end
section
/-! states and worlds: own words -/
abbrev St : Type := Nat → Nat → Int32
def sA (σ : St) (k : Nat) (f : Nat → Int32) : St := fun j => if j = k then f else σ j
abbrev tyL (cs : Nat → ClassId) : List (ClassId × FieldType) := [(cs 0, .int), (cs 1, .byte), (cs 2, .boolean), (cs 3, .long)]
def Wd (D : va_G) (A : Nat → Prop) (H0 : Heap) (w : va_W) (H : Heap) (locs : List Loc) : Prop := va_P D vwCl w H ∧ va_D A w ∧ va_S A H0 H locs
abbrev Fx (p : Program) (m : MethodId) (c : Code) (cc : ByteArray) (nL : Nat) (s : State) (args : Array Value) (own : String) : Prop := CallFix p m c cc nL s args gT own
/-! what a call asks and gives, in pure words -/
def inb (i : Int32) (n : Nat) : Bool := !(decide (i < 0)) && decide (i.toNatClampNeg < n)
theorem inb_in {i : Int32} {n : Nat} (h : inb i n = true) : vp_in i n := by
  simp only [inb, Bool.and_eq_true, Bool.not_eq_true', decide_eq_false_iff_not, decide_eq_true_eq] at h
  intro q
  rcases q with q | q
  · exact h.1 q
  · exact absurd h.2 (Nat.not_lt.mpr q)
def gI {α : Type} (i : Int32) (n : Nat) (k : Option α) : Option α := match inb i n with
  | true => k
  | false => none
theorem gI_some {α : Type} {i : Int32} {n : Nat} {k : Option α} {r : α} (h : gI i n k = some r) : vp_in i n ∧ k = some r := by
  unfold gI at h
  cases hi : inb i n with
  | true => rw [hi] at h; exact ⟨inb_in hi, h⟩
  | false => rw [hi] at h; cases h
def gZ {α : Type} (y : Int32) (k : Option α) : Option α := if y = 0 then none else k
theorem gZ_some {α : Type} {y : Int32} {k : Option α} {r : α} (h : gZ y k = some r) : ¬ y = 0 ∧ k = some r := by
  unfold gZ at h
  by_cases hy : y = 0
  · rw [if_pos hy] at h; cases h
  · rw [if_neg hy] at h; exact ⟨hy, h⟩
def gZL {α : Type} (y : Int64) (k : Option α) : Option α := if y = 0 then none else k
theorem gZL_some {α : Type} {y : Int64} {k : Option α} {r : α} (h : gZL y k = some r) : ¬ y = 0 ∧ k = some r := by
  unfold gZL at h
  by_cases hy : y = 0
  · rw [if_pos hy] at h; cases h
  · rw [if_neg hy] at h; exact ⟨hy, h⟩
def cl1 {α γ : Type} (o : Option α) (k : α → Option γ) : Option γ := match o with
  | none => none
  | some a => k a
def cl2 {α β γ : Type} (o : Option (α × β)) (k : α → β → Option γ) : Option γ := match o with
  | none => none
  | some (a, b) => k a b
def cl3 {α β δ γ : Type} (o : Option (α × β × δ)) (k : α → β → δ → Option γ) : Option γ := match o with
  | none => none
  | some (a, b, d) => k a b d
def cl4 {α β δ ε γ : Type} (o : Option (α × β × δ × ε)) (k : α → β → δ → ε → Option γ) : Option γ := match o with
  | none => none
  | some (a, b, d, e) => k a b d e
theorem cl1_some {α γ : Type} {o : Option α} {k : α → Option γ} {r : γ} (h : cl1 o k = some r) : ∃ a, o = some a ∧ k a = some r := by
  cases o with
  | none => cases h
  | some a => exact ⟨a, rfl, h⟩
theorem cl2_some {α β γ : Type} {o : Option (α × β)} {k : α → β → Option γ} {r : γ} (h : cl2 o k = some r) : ∃ a b, o = some (a, b) ∧ k a b = some r := by
  cases o with
  | none => cases h
  | some a => obtain ⟨a, b⟩ := a; exact ⟨a, b, rfl, h⟩
theorem cl3_some {α β δ γ : Type} {o : Option (α × β × δ)} {k : α → β → δ → Option γ} {r : γ} (h : cl3 o k = some r) : ∃ a b d, o = some (a, b, d) ∧ k a b d = some r := by
  cases o with
  | none => cases h
  | some a => obtain ⟨a, b, d⟩ := a; exact ⟨a, b, d, rfl, h⟩
theorem cl4_some {α β δ ε γ : Type} {o : Option (α × β × δ × ε)} {k : α → β → δ → ε → Option γ} {r : γ} (h : cl4 o k = some r) : ∃ a b d e, o = some (a, b, d, e) ∧ k a b d e = some r := by
  cases o with
  | none => cases h
  | some a => obtain ⟨a, b, d, e⟩ := a; exact ⟨a, b, d, e, rfl, h⟩
theorem ite_t {α : Sort _} {q : Prop} [Decidable q] {a b r : α} (c : q) (h : (if q then a else b) = r) : a = r := by rw [if_pos c] at h; exact h
theorem ite_f {α : Sort _} {q : Prop} [Decidable q] {a b r : α} (c : ¬ q) (h : (if q then a else b) = r) : b = r := by rw [if_neg c] at h; exact h
theorem pr1 {α : Type} {a b : α} (h : some a = some b) : a = b := Option.some.inj h
theorem pr2 {α β : Type} {a c : α} {b d : β} (h : some (a, b) = some (c, d)) : a = c ∧ b = d := by cases h; exact ⟨rfl, rfl⟩
theorem pr3 {α β γ : Type} {a c : α} {b d : β} {e f : γ} (h : some (a, b, e) = some (c, d, f)) : a = c ∧ b = d ∧ e = f := by cases h; exact ⟨rfl, rfl, rfl⟩
theorem pr4 {α β γ δ : Type} {a c : α} {b d : β} {e f : γ} {g i : δ} (h : some (a, b, e, g) = some (c, d, f, i)) : a = c ∧ b = d ∧ e = f ∧ g = i := by cases h; exact ⟨rfl, rfl, rfl, rfl⟩
/-! a part of a world, and what comes back in its place -/
theorem vaP_mem {D : va_G} {cl : List vw_C} {ws : va_W} {H : Heap} : va_P D cl ws H ↔ ∀ q ∈ ws, va_at D cl q H :=
  ⟨fun h q hq => by obtain ⟨k, hk⟩ := List.getElem?_of_mem hq; exact h k q hk, fun h k q hk => h q (List.mem_of_getElem? hk)⟩
theorem vaD_in {A : Nat → Prop} {ws : va_W} (h : va_D A ws) {q : Nat × va_E} (hq : q ∈ ws) : A q.1 := by
  obtain ⟨k, hk⟩ := List.getElem?_of_mem hq
  exact h.2 k q hk
theorem vaA_mem {ws : va_W} {sz q : Nat} (h : va_A ws sz q) : (∃ e, (q, e) ∈ ws) ∨ sz ≤ q := by
  rcases h with ⟨k, e, h⟩ | h
  · exact Or.inl ⟨e, List.mem_of_getElem? h⟩
  · exact Or.inr h
theorem vaD_split {A : Nat → Prop} {w1 w2 : va_W} (h : va_D A (w1 ++ w2)) : va_D A w1 ∧ va_D A w2 ∧ ∀ p ∈ w1, ∀ q ∈ w2, p.1 ≠ q.1 := by
  have e1 : ∀ (k : Nat) (q : Nat × va_E), w1[k]? = some q → (w1 ++ w2)[k]? = some q := fun k q hk => by
    rw [List.getElem?_append_left (List.getElem?_eq_some_iff.mp hk).1]; exact hk
  have e2 : ∀ (k : Nat) (q : Nat × va_E), w2[k]? = some q → (w1 ++ w2)[w1.length + k]? = some q := fun k q hk => by
    rw [List.getElem?_append_right (by omega), show w1.length + k - w1.length = k by omega]; exact hk
  refine ⟨⟨fun i j p q hi hj he => h.1 i j p q (e1 i p hi) (e1 j q hj) he, fun k q hk => h.2 k q (e1 k q hk)⟩, ⟨fun i j p q hi hj he => ?_, fun k q hk => h.2 _ q (e2 k q hk)⟩, fun p hp q hq he => ?_⟩
  · have := h.1 _ _ p q (e2 i p hi) (e2 j q hj) he
    omega
  · obtain ⟨i, hi⟩ := List.getElem?_of_mem hp
    obtain ⟨j, hj⟩ := List.getElem?_of_mem hq
    have h1 := h.1 _ _ p q (e1 i p hi) (e2 j q hj) he
    have hl := (List.getElem?_eq_some_iff.mp hi).1
    omega
theorem vaD_app {A : Nat → Prop} {w1 w2 : va_W} (h1 : va_D A w1) (h2 : va_D A w2) (hx : ∀ p ∈ w1, ∀ q ∈ w2, p.1 ≠ q.1) : va_D A (w1 ++ w2) :=
  va_D.app h1 h2 (fun i j p q hi hj => hx p (List.mem_of_getElem? hi) q (List.mem_of_getElem? hj))
theorem k_mid {A : Nat → Prop} {D : va_G} {cl : List vw_C} {pre mid mid' post : va_W} {H H1 : Heap} (hP : va_P D cl (pre ++ (mid ++ post)) H) (hD : va_D A (pre ++ (mid ++ post)))
    (hk : ∀ q : Nat, q < H.size → ¬ va_A mid H.size q → H1[q]? = H[q]?) (hF : ∀ q, va_A mid H.size q → A q) (hP1 : va_P D cl mid' H1) (hD1 : va_D (va_A mid H.size) mid') :
    va_P D cl (pre ++ (mid' ++ post)) H1 ∧ va_D A (pre ++ (mid' ++ post)) := by
  obtain ⟨d1, d2, x1⟩ := vaD_split hD
  obtain ⟨d3, d4, x2⟩ := vaD_split d2
  have hm := vaP_mem.mp hP
  have hm1 := vaP_mem.mp hP1
  have out : ∀ p : Nat × va_E, va_at D cl p H → (∀ q ∈ mid, p.1 ≠ q.1) → ¬ va_A mid H.size p.1 := by
    intro p hp hne h
    rcases vaA_mem h with ⟨e, he⟩ | h
    · exact hne _ he rfl
    · exact absurd hp.lt (Nat.not_lt.mpr h)
  have opre : ∀ p ∈ pre, ¬ va_A mid H.size p.1 := fun p hp => out p (hm p (List.mem_append_left _ hp)) (fun q hq => x1 p hp q (List.mem_append_left _ hq))
  have opost : ∀ p ∈ post, ¬ va_A mid H.size p.1 := fun p hp => out p (hm p (List.mem_append_right _ (List.mem_append_right _ hp))) (fun q hq => (x2 q hq p hp).symm)
  refine ⟨vaP_mem.mpr fun q hq => ?_, vaD_app d1 (vaD_app (hD1.weaken (fun _ q _ h => hF q.1 h)) d4 ?_) ?_⟩
  · rcases List.mem_append.mp hq with h | h
    · exact (hm q (List.mem_append_left _ h)).kept (hk _ (hm q (List.mem_append_left _ h)).lt (opre q h))
    · rcases List.mem_append.mp h with h | h
      · exact hm1 q h
      · have h9 := hm q (List.mem_append_right _ (List.mem_append_right _ h))
        exact h9.kept (hk _ h9.lt (opost q h))
  · intro p hp q hq he
    exact opost q hq (he ▸ vaD_in hD1 hp)
  · intro p hp q hq he
    rcases List.mem_append.mp hq with h | h
    · exact opre p hp (he ▸ vaD_in hD1 h)
    · exact x1 p hp q (List.mem_append_right _ h) he
theorem k_cut {A : Nat → Prop} {D : va_G} {cl : List vw_C} {pre mid post : va_W} {H : Heap} (hP : va_P D cl (pre ++ (mid ++ post)) H) (hD : va_D A (pre ++ (mid ++ post))) : va_P D cl mid H ∧ va_D A mid :=
  ⟨vaP_mem.mpr fun q hq => vaP_mem.mp hP q (List.mem_append_right _ (List.mem_append_left _ hq)), (vaD_split (vaD_split hD).2.1).1⟩
theorem k_free {A : Nat → Prop} {w : va_W} {H0 H : Heap} (hD : va_D A w) (hz : H0.size ≤ H.size) (hA : ∀ q, H0.size ≤ q → A q) : ∀ q, va_A w H.size q → A q := by
  intro q h
  rcases vaA_mem h with ⟨e, he⟩ | h
  · exact vaD_in hD he
  · exact hA q (Nat.le_trans hz h)
/-! the static rows that the class reads: FIRST, LEAST, MOST, FIRST_READER -/
def zFirst : Nat → Int32 := fun k => [0, 1, 8, 10, 11, 12, 13].getD k 0
def zLeast : Nat → Int32 := fun k => [0, 0, 1, 1, 1, 0, 0, 0, 1, 1, 1, 0, 0].getD k 0
def zMost : Nat → Int32 := fun k => [3, 199, 199, 199, 99, 3, 9, 9, 99, 99, 99, 99, 30].getD k 0
def zReader : Nat → Int32 := fun k => [0, 60, 30, 10, 0, 5, 5].getD k 0
def Zo (C n : String) (L : Nat) (xs : Nat → Int32) (q : Nat) (A : Nat → Prop) (U : State) (H : Heap) : Prop := va_Z C n "[I" (.ref q) A U H ∧ va_X q L xs U H ∧ q < H.size ∧ ¬ A q
def Zf (fs : Nat → Nat) (A : Nat → Prop) (U : State) (H : Heap) : Prop := Zo "CoatsOnChairs$Scan" "FIRST" 7 zFirst (fs 0) A U H ∧ Zo "CoatsOnChairs$Scan" "LEAST" 13 zLeast (fs 1) A U H ∧ Zo "CoatsOnChairs$Scan" "MOST" 13 zMost (fs 2) A U H ∧ Zo "CoatsOnChairs" "FIRST_READER" 7 zReader (fs 3) A U H
theorem Zo.move {C n : String} {L q : Nat} {xs : Nat → Int32} {A B : Nat → Prop} {u U : State} {H H1 : Heap} (h : Zo C n L xs q A u H) (hvm : u.vm.Alike U.vm) (hz : H.size ≤ H1.size) (hk : ∀ a : Nat, a < H.size → ¬ A a → H1[a]? = H[a]?) (hAB : ∀ a, B a → A a) : Zo C n L xs q B U H1 :=
  ⟨((h.1.moved hvm).kept hk).narrow hAB, (h.2.1.moved hvm).kept (hk q h.2.2.1 h.2.2.2), Nat.lt_of_lt_of_le h.2.2.1 hz, fun z => h.2.2.2 (hAB q z)⟩
theorem Zf.move {fs : Nat → Nat} {A B : Nat → Prop} {u U : State} {H H1 : Heap} (h : Zf fs A u H) (hvm : u.vm.Alike U.vm) (hz : H.size ≤ H1.size) (hk : ∀ a : Nat, a < H.size → ¬ A a → H1[a]? = H[a]?) (hAB : ∀ a, B a → A a) : Zf fs B U H1 :=
  ⟨h.1.move hvm hz hk hAB, h.2.1.move hvm hz hk hAB, h.2.2.1.move hvm hz hk hAB, h.2.2.2.move hvm hz hk hAB⟩
def Gf (z : Option (Nat → Nat)) (A : Nat → Prop) (U : State) : Prop := match z with
  | none => True
  | some fs => Zf fs A U U.heap
theorem Gf.to {z : Option (Nat → Nat)} {A B : Nat → Prop} {u U : State} (h : Gf z A u) (hvm : u.vm.Alike U.vm) (hz : u.heap.size ≤ U.heap.size) (hk : ∀ a : Nat, a < u.heap.size → ¬ A a → U.heap[a]? = u.heap[a]?) (hAB : ∀ a, B a → A a) : Gf z B U := by
  cases z with
  | none => trivial
  | some fs => exact Zf.move h hvm hz hk hAB
/-! contracts: a method that makes no cell, from the world w to the world w' -/
def Kp (D : va_G) (cs : Nat → ClassId) (z : Option (Nat → Nat)) (w : va_W) (sz : Nat) : State → Prop := fun U => U.heap.size = sz ∧ va_P D vwCl w U.heap ∧ va_K D vwCl (tyL cs) U ∧ va_D (fun _ => True) w ∧ Gf z (va_A w sz) U
def Kq (D : va_G) (cs : Nat → ClassId) (w' : va_W) (A : Nat → Prop) : Unit → State → Prop := fun _ t => va_P D vwCl w' t.heap ∧ va_K D vwCl (tyL cs) t ∧ va_D A w'
def Ki (l : Launch) (D : va_G) (cs : Nat → ClassId) (z : Option (Nat → Nat)) (y : MethodName) (b : ByteArray) (n : Nat) (rt : Option FieldType) (fr lo : Nat) (w : va_W) (av : List Value) (r : Int32) (w' : va_W) : Prop :=
  ∀ sz, Met l y (.code y b n rt :: gT) { frames := fr, cells := 0, slots := 0, locals := lo } (va_Pc av (Kp D cs z w sz)) (va_Qi (fun (x : Int32) (_ : Unit) => x = r) (Kq D cs w' (va_A w sz)) (va_A w sz)) 0 0 (va_A w sz)
def Kl (l : Launch) (D : va_G) (cs : Nat → ClassId) (z : Option (Nat → Nat)) (y : MethodName) (b : ByteArray) (n : Nat) (rt : Option FieldType) (fr lo : Nat) (w : va_W) (av : List Value) (r : Int64) (w' : va_W) : Prop :=
  ∀ sz, Met l y (.code y b n rt :: gT) { frames := fr, cells := 0, slots := 0, locals := lo } (va_Pc av (Kp D cs z w sz)) (va_Ql (fun (x : Int64) (_ : Unit) => x = r) (Kq D cs w' (va_A w sz)) (va_A w sz)) 0 0 (va_A w sz)
def Kv (l : Launch) (D : va_G) (cs : Nat → ClassId) (z : Option (Nat → Nat)) (y : MethodName) (b : ByteArray) (n : Nat) (rt : Option FieldType) (fr lo : Nat) (w : va_W) (av : List Value) (w' : va_W) : Prop :=
  ∀ sz, Met l y (.code y b n rt :: gT) { frames := fr, cells := 0, slots := 0, locals := lo } (va_Pc av (Kp D cs z w sz)) (va_Qv (fun (_ : Unit) => True) (Kq D cs w' (va_A w sz)) (va_A w sz)) 0 0 (va_A w sz)
theorem Kp.blind {D : va_G} {cs : Nat → ClassId} {z : Option (Nat → Nat)} {w : va_W} {sz : Nat} {av : List Value} : FrameBlind (va_Pc av (Kp D cs z w sz)) := by
  intro a U g mk q
  obtain ⟨q0, q1, qP, qK, qD, qG⟩ := q
  exact ⟨q0, q1, qP, va_K.moved (u := U) (U := U.calling g mk a) (Vm.Alike.refl U.vm) qK, qD, Gf.to (U := U.calling g mk a) qG (Vm.Alike.refl U.vm) (Nat.le_refl _) (fun _ _ _ => rfl) (fun _ h => h)⟩
section KCALL
variable {p : Program} {l : Launch} {e : Env} {R : Room} {s : State} {m : MethodId} {args : Array Value} {below : List Frame} {meth : Method} {c : Code} {H : Heap} {locs : List Loc} {cells slots : Nat} {Q : State → Prop}
variable {cc : ByteArray} {pc nL : Nat} {ls : Array Slot} {rest st0 : List Value} {D : va_G} {cs : Nat → ClassId} {A : Nat → Prop} {own : String} {z : Option (Nat → Nat)} {ws ws' mid mid' : va_W} {y : MethodName} {b : ByteArray} {n fr lo idx a0 ci : Nat} {rt : Option FieldType} {As fs : List Value} {q : vw_C}
theorem k_pre (hK : va_K D vwCl (tyL cs) s) (hA : ∀ x, s.heap.size ≤ x → A x) (hz : Gf z A s) {pre post : va_W} (hW : Wd D A s.heap (pre ++ (mid ++ post)) H locs) :
    va_P D vwCl mid H ∧ va_D A mid ∧ (∀ x, va_A mid H.size x → A x) ∧ ∀ U : State, U.heap = H → s.WarmedH U.vm → Kp D cs z mid H.size U := by
  obtain ⟨hP, hD, hS⟩ := hW
  obtain ⟨hPc, hDc⟩ := k_cut hP hD
  have hF := k_free hDc hS.1 hA
  refine ⟨hPc, hDc, hF, fun U hU hWm => ⟨by rw [hU], by rw [hU]; exact hPc, va_K.moved hWm.alike hK, hDc.weaken (fun _ _ _ _ => trivial), hz.to hWm.alike (by rw [hU]; exact hS.1) (fun a h1 h2 => by rw [hU]; exact hS.2.1 a h1 h2) hF⟩⟩
theorem k_post {pre post : va_W} (hW : Wd D A s.heap (pre ++ (mid ++ post)) H locs) (hF : ∀ x, va_A mid H.size x → A x) {t : State} {H1 : Heap} {locs1 : List Loc} (ht : t.heap = H1) (hB : Kq D cs mid' (va_A mid H.size) () t) (hk1 : ∀ q : Nat, q < H.size → ¬ va_A mid H.size q → H1[q]? = H[q]?) (hS : va_S A s.heap H1 locs1) : Wd D A s.heap (pre ++ (mid' ++ post)) H1 locs1 := by
  obtain ⟨hP1, hK1, hD1⟩ := hB
  rw [ht] at hP1
  obtain ⟨g1, g2⟩ := k_mid hW.1 hW.2.1 hk1 hF hP1 hD1
  exact ⟨g1, g2, hS⟩
abbrev Lk (own : String) (idx : Nat) (y : MethodName) (b : ByteArray) (n : Nat) (rt : Option FieldType) (k : Nat) : Prop := (Cond.methodLink own idx y ∈ gT ∧ Cond.initialized y.cls ∈ gT ∧ Cond.code y b n rt ∈ gT) ∧ y.cls ≠ "java/lang/invoke/MethodHandle" ∧ y.cls ≠ "java/lang/invoke/VarHandle" ∧ (parseMethodDescriptor y.desc).map (fun d => d.parameters.length) = some k
theorem k_cb {k : Nat} (S : Fx p m c cc nL s args own) (L : Lk own idx y b n rt k) (hR : fr + 1 ≤ R.frames ∧ 8 + (n + 11) + lo ≤ R.locals) : CallB R s args own idx y b n rt (.code y b n rt :: gT) { frames := fr, cells := 0, slots := 0, locals := lo } 0 0 k :=
  callB_of k S.2.2.2.2 (gT_good (fun _ h => h) L.1.2.2) rfl rfl rfl (S.2.2.2.2 _ L.1.2.1) (S.2.2.2.2 _ L.1.1) L.2 hR
theorem kV_i {r : Int32} (S : Fx p m c cc nL s args own) (hK : va_K D vwCl (tyL cs) s) (hA : ∀ x, s.heap.size ≤ x → A x) (hz : Gf z A s) (pre post : va_W) (hW : Wd D A s.heap (pre ++ (mid ++ post)) H locs) (hM : Ki l D cs z y b n rt fr lo mid (.ref a0 :: As) r mid') (hc : vwCl[ci]? = some q) (he : mid[0]? = some (a0, .inr (ci, fs)))
    (L : Lk own idx y b n rt As.length) (hi : Cond.instanceMethod y ∈ gT) (hs : Cond.selects q.1 y y ∈ gT) (hR : fr + 1 ≤ R.frames ∧ 8 + (n + 11) + lo ≤ R.locals) (hst : st0 = As.reverse ++ .ref a0 :: rest) (hcat : (rest.map fun v => v.category).sum ≤ 8) (hsz : ls.size = nL) (hdg : decode cc pc = .ok (.invokevirtual idx, 3)) (hf : cells ≤ R.cells ∧ slots ≤ R.slots)
    (kk : ∀ (H : Heap) (locs : List Loc), Wd D A s.heap (pre ++ (mid' ++ post)) H locs → W p l e R s m args below meth c H locs cells slots Q (F0 m (pc + 3) ls (.int r :: rest))) : W p l e R s m args below meth c H locs cells slots Q (F0 m pc ls st0) := by
  obtain ⟨hPc, hDc, hF, hU⟩ := k_pre hK hA hz hW
  refine va_calli (va_runV (C := q.1) (As := As) (rest := rest) S (hM H.size) ⟨k_cb S L hR, S.2.2.2.2 _ hi, S.2.2.2.2 _ hs⟩ ⟨Kp.blind, va_recv hK hPc hc he, fun U h1 h2 => ⟨rfl, hU U h1 h2⟩⟩ rfl rfl hsz hst (lv_room (m := m) (pc := pc) (ls := ls) (rest := st0) hcat) hdg hf) hW.2.2 (fun x _ h => hF x h) hF (fun r1 u t H1 locs1 ht hvm hw hB hz1 hk1 hS => ?_)
  subst hw
  exact kk H1 locs1 (k_post hW hF ht hB hk1 hS)
theorem kV_l {r : Int64} (S : Fx p m c cc nL s args own) (hK : va_K D vwCl (tyL cs) s) (hA : ∀ x, s.heap.size ≤ x → A x) (hz : Gf z A s) (pre post : va_W) (hW : Wd D A s.heap (pre ++ (mid ++ post)) H locs) (hM : Kl l D cs z y b n rt fr lo mid (.ref a0 :: As) r mid') (hc : vwCl[ci]? = some q) (he : mid[0]? = some (a0, .inr (ci, fs)))
    (L : Lk own idx y b n rt As.length) (hi : Cond.instanceMethod y ∈ gT) (hs : Cond.selects q.1 y y ∈ gT) (hR : fr + 1 ≤ R.frames ∧ 8 + (n + 11) + lo ≤ R.locals) (hst : st0 = As.reverse ++ .ref a0 :: rest) (hcat : (rest.map fun v => v.category).sum ≤ 8) (hsz : ls.size = nL) (hdg : decode cc pc = .ok (.invokevirtual idx, 3)) (hf : cells ≤ R.cells ∧ slots ≤ R.slots)
    (kk : ∀ (H : Heap) (locs : List Loc), Wd D A s.heap (pre ++ (mid' ++ post)) H locs → W p l e R s m args below meth c H locs cells slots Q (F0 m (pc + 3) ls (.long r :: rest))) : W p l e R s m args below meth c H locs cells slots Q (F0 m pc ls st0) := by
  obtain ⟨hPc, hDc, hF, hU⟩ := k_pre hK hA hz hW
  refine va_calll (va_runV (C := q.1) (As := As) (rest := rest) S (hM H.size) ⟨k_cb S L hR, S.2.2.2.2 _ hi, S.2.2.2.2 _ hs⟩ ⟨Kp.blind, va_recv hK hPc hc he, fun U h1 h2 => ⟨rfl, hU U h1 h2⟩⟩ rfl rfl hsz hst (lv_room (m := m) (pc := pc) (ls := ls) (rest := st0) hcat) hdg hf) hW.2.2 (fun x _ h => hF x h) hF (fun r1 u t H1 locs1 ht hvm hw hB hz1 hk1 hS => ?_)
  subst hw
  exact kk H1 locs1 (k_post hW hF ht hB hk1 hS)
theorem kV_v (S : Fx p m c cc nL s args own) (hK : va_K D vwCl (tyL cs) s) (hA : ∀ x, s.heap.size ≤ x → A x) (hz : Gf z A s) (pre post : va_W) (hW : Wd D A s.heap (pre ++ (mid ++ post)) H locs) (hM : Kv l D cs z y b n rt fr lo mid (.ref a0 :: As) mid') (hc : vwCl[ci]? = some q) (he : mid[0]? = some (a0, .inr (ci, fs)))
    (L : Lk own idx y b n rt As.length) (hi : Cond.instanceMethod y ∈ gT) (hs : Cond.selects q.1 y y ∈ gT) (hR : fr + 1 ≤ R.frames ∧ 8 + (n + 11) + lo ≤ R.locals) (hst : st0 = As.reverse ++ .ref a0 :: rest) (hcat : (rest.map fun v => v.category).sum ≤ 8) (hsz : ls.size = nL) (hdg : decode cc pc = .ok (.invokevirtual idx, 3)) (hf : cells ≤ R.cells ∧ slots ≤ R.slots)
    (kk : ∀ (H : Heap) (locs : List Loc), Wd D A s.heap (pre ++ (mid' ++ post)) H locs → W p l e R s m args below meth c H locs cells slots Q (F0 m (pc + 3) ls rest)) : W p l e R s m args below meth c H locs cells slots Q (F0 m pc ls st0) := by
  obtain ⟨hPc, hDc, hF, hU⟩ := k_pre hK hA hz hW
  refine va_callv (va_runV (C := q.1) (As := As) (rest := rest) S (hM H.size) ⟨k_cb S L hR, S.2.2.2.2 _ hi, S.2.2.2.2 _ hs⟩ ⟨Kp.blind, va_recv hK hPc hc he, fun U h1 h2 => ⟨rfl, hU U h1 h2⟩⟩ rfl rfl hsz hst (lv_room (m := m) (pc := pc) (ls := ls) (rest := st0) hcat) hdg hf) hW.2.2 (fun x _ h => hF x h) hF (fun u t H1 locs1 ht hvm hw hB hz1 hk1 hS => ?_)
  exact kk H1 locs1 (k_post hW hF ht hB hk1 hS)
theorem kS_i {r : Int32} (S : Fx p m c cc nL s args own) (hK : va_K D vwCl (tyL cs) s) (hA : ∀ x, s.heap.size ≤ x → A x) (hz : Gf z A s) (pre post : va_W) (hW : Wd D A s.heap (pre ++ (mid ++ post)) H locs) (hM : Ki l D cs z y b n rt fr lo mid As r mid')
    (L : Lk own idx y b n rt As.length) (hi : Cond.static y ∈ gT) (hR : fr + 1 ≤ R.frames ∧ 8 + (n + 11) + lo ≤ R.locals) (hst : st0 = As.reverse ++ rest) (hcat : (rest.map fun v => v.category).sum ≤ 8) (hsz : ls.size = nL) (hdg : decode cc pc = .ok (.invokestatic idx, 3)) (hf : cells ≤ R.cells ∧ slots ≤ R.slots)
    (kk : ∀ (H : Heap) (locs : List Loc), Wd D A s.heap (pre ++ (mid' ++ post)) H locs → W p l e R s m args below meth c H locs cells slots Q (F0 m (pc + 3) ls (.int r :: rest))) : W p l e R s m args below meth c H locs cells slots Q (F0 m pc ls st0) := by
  obtain ⟨hPc, hDc, hF, hU⟩ := k_pre hK hA hz hW
  refine va_calli (va_runS (As := As) (rest := rest) S (hM H.size) ⟨k_cb S L hR, S.2.2.2.2 _ hi⟩ ⟨Kp.blind, fun U h1 h2 => ⟨rfl, hU U h1 h2⟩⟩ rfl rfl hsz hst (lv_room (m := m) (pc := pc) (ls := ls) (rest := st0) hcat) hdg hf) hW.2.2 (fun x _ h => hF x h) hF (fun r1 u t H1 locs1 ht hvm hw hB hz1 hk1 hS => ?_)
  subst hw
  exact kk H1 locs1 (k_post hW hF ht hB hk1 hS)
theorem kS_l {r : Int64} (S : Fx p m c cc nL s args own) (hK : va_K D vwCl (tyL cs) s) (hA : ∀ x, s.heap.size ≤ x → A x) (hz : Gf z A s) (pre post : va_W) (hW : Wd D A s.heap (pre ++ (mid ++ post)) H locs) (hM : Kl l D cs z y b n rt fr lo mid As r mid')
    (L : Lk own idx y b n rt As.length) (hi : Cond.static y ∈ gT) (hR : fr + 1 ≤ R.frames ∧ 8 + (n + 11) + lo ≤ R.locals) (hst : st0 = As.reverse ++ rest) (hcat : (rest.map fun v => v.category).sum ≤ 8) (hsz : ls.size = nL) (hdg : decode cc pc = .ok (.invokestatic idx, 3)) (hf : cells ≤ R.cells ∧ slots ≤ R.slots)
    (kk : ∀ (H : Heap) (locs : List Loc), Wd D A s.heap (pre ++ (mid' ++ post)) H locs → W p l e R s m args below meth c H locs cells slots Q (F0 m (pc + 3) ls (.long r :: rest))) : W p l e R s m args below meth c H locs cells slots Q (F0 m pc ls st0) := by
  obtain ⟨hPc, hDc, hF, hU⟩ := k_pre hK hA hz hW
  refine va_calll (va_runS (As := As) (rest := rest) S (hM H.size) ⟨k_cb S L hR, S.2.2.2.2 _ hi⟩ ⟨Kp.blind, fun U h1 h2 => ⟨rfl, hU U h1 h2⟩⟩ rfl rfl hsz hst (lv_room (m := m) (pc := pc) (ls := ls) (rest := st0) hcat) hdg hf) hW.2.2 (fun x _ h => hF x h) hF (fun r1 u t H1 locs1 ht hvm hw hB hz1 hk1 hS => ?_)
  subst hw
  exact kk H1 locs1 (k_post hW hF ht hB hk1 hS)
theorem kS_v (S : Fx p m c cc nL s args own) (hK : va_K D vwCl (tyL cs) s) (hA : ∀ x, s.heap.size ≤ x → A x) (hz : Gf z A s) (pre post : va_W) (hW : Wd D A s.heap (pre ++ (mid ++ post)) H locs) (hM : Kv l D cs z y b n rt fr lo mid As mid')
    (L : Lk own idx y b n rt As.length) (hi : Cond.static y ∈ gT) (hR : fr + 1 ≤ R.frames ∧ 8 + (n + 11) + lo ≤ R.locals) (hst : st0 = As.reverse ++ rest) (hcat : (rest.map fun v => v.category).sum ≤ 8) (hsz : ls.size = nL) (hdg : decode cc pc = .ok (.invokestatic idx, 3)) (hf : cells ≤ R.cells ∧ slots ≤ R.slots)
    (kk : ∀ (H : Heap) (locs : List Loc), Wd D A s.heap (pre ++ (mid' ++ post)) H locs → W p l e R s m args below meth c H locs cells slots Q (F0 m (pc + 3) ls rest)) : W p l e R s m args below meth c H locs cells slots Q (F0 m pc ls st0) := by
  obtain ⟨hPc, hDc, hF, hU⟩ := k_pre hK hA hz hW
  refine va_callv (va_runS (As := As) (rest := rest) S (hM H.size) ⟨k_cb S L hR, S.2.2.2.2 _ hi⟩ ⟨Kp.blind, fun U h1 h2 => ⟨rfl, hU U h1 h2⟩⟩ rfl rfl hsz hst (lv_room (m := m) (pc := pc) (ls := ls) (rest := st0) hcat) hdg hf) hW.2.2 (fun x _ h => hF x h) hF (fun u t H1 locs1 ht hvm hw hB hz1 hk1 hS => ?_)
  exact kk H1 locs1 (k_post hW hF ht hB hk1 hS)
end KCALL
def nm {α : Type} {β : Type} (e : α) (k : α → β) : β := k e
theorem nm_to {α β : Type} {x e : α} {k : α → β} {r : β} (hx : x = e) (h : nm e k = r) : k x = r := by rw [hx]; exact h
theorem nm_some {α β : Type} {e : α} {k : α → β} {r : β} (h : nm e k = r) : ∃ x, x = e ∧ k x = r := ⟨e, rfl, h⟩
/-- a boolean that a method hands on -/
def gB {α : Type} (x : Int32) (k : Option α) : Option α := if x &&& 1 = x then k else none
theorem gB_some {α : Type} {x : Int32} {k : Option α} {r : α} (h : gB x k = some r) : narrow .boolean (.int x) = .int x ∧ k = some r := by
  unfold gB at h
  by_cases hx : x &&& 1 = x
  · rw [if_pos hx] at h
    exact ⟨by show Value.int (x &&& 1) = .int x; rw [hx], h⟩
  · rw [if_neg hx] at h; cases h
section KOF
variable {l : Launch} {D : va_G} {cs : Nat → ClassId} {z : Option (Nat → Nat)} {y : MethodName} {b : ByteArray} {n fr lo : Nat} {w w' : va_W} {av : List Value}
theorem k_start {rt : Option FieldType} {p : Program} {e : Env} {s : State} {m : MethodId} {args : Array Value} {below : List Frame} {meth : Method} {c : Code} {s₁ : State} {sz : Nat} (B : BodyLoose p l y (headSpec (.code y b n rt :: gT) { frames := fr, cells := 0, slots := 0, locals := lo }) b n rt e s m args below meth c s₁) (hml : c.maxLocals = n) (hv : va_Pc av (Kp D cs z w sz) args s) :
    args = av.toArray ∧ s.heap.size = sz ∧ Fx p m c b n s args y.cls ∧ va_K D vwCl (tyL cs) s ∧ (∀ x, s.heap.size ≤ x → va_A w sz x) ∧ Gf z (va_A w sz) s ∧ Wd D (va_A w sz) s.heap w s.heap [] := by
  obtain ⟨rfl, hsz, hP, hK, hD0, hG⟩ := hv
  have hts := atoms_spec (ws := .code y b n rt :: gT) B.pre
  have hown : s.vm.findClass y.cls = some m.cls := findClass_of_methodNamed B.named
  subst hsz
  exact ⟨rfl, rfl, ⟨B.exec, B.bytes, hml, hown, fun w hw => hts w (List.mem_cons_of_mem _ hw)⟩, hK, fun q h => Or.inr h, hG, hP, hD0.self, va_S.rf⟩
theorem Ki_of {r : Int32} {ty : FieldType} (hy : plainName y.cls = true) (hn : (lg_sl av).length ≤ n)
    (body : ∀ (p : Program) (e : Env) (s : State) (m : MethodId) (below : List Frame) (meth : Method) (c : Code) (A : Nat → Prop), Fx p m c b n s av.toArray y.cls → va_K D vwCl (tyL cs) s → (∀ x, s.heap.size ≤ x → A x) → Gf z A s → ∀ (Q : State → Prop),
      (∀ (H : Heap) (locs : List Loc) (pc : Nat) (ls : Array Slot), decode b pc = .ok (.ireturn, 1) → narrow ty (.int r) = .int r → Wd D A s.heap w' H locs → W p l e { frames := fr, cells := 0, slots := 0, locals := lo } s m av.toArray below meth c H locs 0 0 Q (F0 m pc ls [.int r])) →
      ∀ (ls : Array Slot), lv_has ls n (lv_args 0 av) → Wd D A s.heap w s.heap [] → W p l e { frames := fr, cells := 0, slots := 0, locals := lo } s m av.toArray below meth c s.heap [] 0 0 Q (F0 m 0 ls [])) : Ki l D cs z y b n (some ty) fr lo w av r w' := by
  intro sz
  refine Met.ofW (cc := b) (maxL := n) (ret := some ty) hy rfl ?_
  intro p e s m args below meth c s₁ B hml hv
  obtain ⟨rfl, hsz, S, hK, hA, hG, hW⟩ := k_start B hml hv
  have hr := B.returns
  have hlocks := B.notSynchronized
  have hl := lv_entry av hn
  rw [lg_entry_eq]
  refine body p e s m below meth c (va_A w sz) S hK hA hG _ (fun H locs pc ls hd hnw hW => ?_) _ hl hW
  exact W.zret (v := r) S.1 S.2.1 hr hnw (fun t ht hWm => ⟨⟨r, (), rfl, rfl, by rw [ht]; exact hW.1, va_K.moved hWm.alike hK, hW.2.1⟩, hW.2.2.F ht⟩) hW.2.2.2.2 hd
theorem Kl_of {r : Int64} (hy : plainName y.cls = true) (hn : (lg_sl av).length ≤ n)
    (body : ∀ (p : Program) (e : Env) (s : State) (m : MethodId) (below : List Frame) (meth : Method) (c : Code) (A : Nat → Prop), Fx p m c b n s av.toArray y.cls → va_K D vwCl (tyL cs) s → (∀ x, s.heap.size ≤ x → A x) → Gf z A s → ∀ (Q : State → Prop),
      (∀ (H : Heap) (locs : List Loc) (pc : Nat) (ls : Array Slot), decode b pc = .ok (.lreturn, 1) → Wd D A s.heap w' H locs → W p l e { frames := fr, cells := 0, slots := 0, locals := lo } s m av.toArray below meth c H locs 0 0 Q (F0 m pc ls [.long r])) →
      ∀ (ls : Array Slot), lv_has ls n (lv_args 0 av) → Wd D A s.heap w s.heap [] → W p l e { frames := fr, cells := 0, slots := 0, locals := lo } s m av.toArray below meth c s.heap [] 0 0 Q (F0 m 0 ls [])) : Kl l D cs z y b n (some .long) fr lo w av r w' := by
  intro sz
  refine Met.ofW (cc := b) (maxL := n) (ret := some .long) hy rfl ?_
  intro p e s m args below meth c s₁ B hml hv
  obtain ⟨rfl, hsz, S, hK, hA, hG, hW⟩ := k_start B hml hv
  have hr := B.returns
  have hlocks := B.notSynchronized
  have hl := lv_entry av hn
  rw [lg_entry_eq]
  refine body p e s m below meth c (va_A w sz) S hK hA hG _ (fun H locs pc ls hd hW => ?_) _ hl hW
  exact W.lret (v := r) S.1 S.2.1 hr (fun t ht hWm => ⟨⟨r, (), rfl, rfl, by rw [ht]; exact hW.1, va_K.moved hWm.alike hK, hW.2.1⟩, hW.2.2.F ht⟩) hW.2.2.2.2 hd
theorem Kv_of (hy : plainName y.cls = true) (hn : (lg_sl av).length ≤ n)
    (body : ∀ (p : Program) (e : Env) (s : State) (m : MethodId) (below : List Frame) (meth : Method) (c : Code) (A : Nat → Prop), Fx p m c b n s av.toArray y.cls → va_K D vwCl (tyL cs) s → (∀ x, s.heap.size ≤ x → A x) → Gf z A s → ∀ (Q : State → Prop),
      (∀ (H : Heap) (locs : List Loc) (pc : Nat) (ls : Array Slot), decode b pc = .ok (.return_, 1) → Wd D A s.heap w' H locs → W p l e { frames := fr, cells := 0, slots := 0, locals := lo } s m av.toArray below meth c H locs 0 0 Q (F0 m pc ls [])) →
      ∀ (ls : Array Slot), lv_has ls n (lv_args 0 av) → Wd D A s.heap w s.heap [] → W p l e { frames := fr, cells := 0, slots := 0, locals := lo } s m av.toArray below meth c s.heap [] 0 0 Q (F0 m 0 ls [])) : Kv l D cs z y b n none fr lo w av w' := by
  intro sz
  refine Met.ofW (cc := b) (maxL := n) (ret := none) hy rfl ?_
  intro p e s m args below meth c s₁ B hml hv
  obtain ⟨rfl, hsz, S, hK, hA, hG, hW⟩ := k_start B hml hv
  have hr := B.returns
  have hlocks := B.notSynchronized
  have hl := lv_entry av hn
  rw [lg_entry_eq]
  refine body p e s m below meth c (va_A w sz) S hK hA hG _ (fun H locs pc ls hd hW => ?_) _ hl hW
  exact W.vret S.1 S.2.1 hr (fun t ht hWm => ⟨⟨(), rfl, trivial, by rw [ht]; exact hW.1, va_K.moved hWm.alike hK, hW.2.1⟩, hW.2.2.F ht⟩) hW.2.2.2.2 hd
end KOF
end
