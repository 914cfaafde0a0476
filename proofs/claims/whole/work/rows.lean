section
-- ===== PART A: goes FIRST, ahead of the names: the tables' words, and 'selects' of the private methods out of them =====
/-- a private method of a class that the tables say can be made, by its rows of tables_1 -/
def lw_okq (q : MethodName × Nat) : Prop := (q.1.cls ≠ "java/lang/invoke/MethodHandle" ∧ q.1.cls ≠ "java/lang/invoke/VarHandle") ∧ Cond.instantiable q.1.cls q.2 ∈ tables_1 ∧ Cond.privateMethod q.1 ∈ tables_1 ∧ Cond.instanceMethod q.1 ∈ tables_1
theorem lw_p0 : lw_okq (⟨"java/lang/Throwable", "fillInStackTrace", "(I)Ljava/lang/Throwable;"⟩, 6) := ⟨⟨by decide +kernel, by decide +kernel⟩, List.mem_of_getElem? (i := 174) (by decide +kernel), List.mem_of_getElem? (i := 172) (by decide +kernel), List.mem_of_getElem? (i := 173) (by decide +kernel)⟩
theorem lw_p1 : lw_okq (⟨"NameAuction$Name", "beginAuction", "(I)V"⟩, 11) := ⟨⟨by decide +kernel, by decide +kernel⟩, List.mem_of_getElem? (i := 28) (by decide +kernel), List.mem_of_getElem? (i := 251) (by decide +kernel), List.mem_of_getElem? (i := 252) (by decide +kernel)⟩
theorem lw_p2 : lw_okq (⟨"NameAuction$Name", "countBids", "()I"⟩, 11) := ⟨⟨by decide +kernel, by decide +kernel⟩, List.mem_of_getElem? (i := 28) (by decide +kernel), List.mem_of_getElem? (i := 262) (by decide +kernel), List.mem_of_getElem? (i := 263) (by decide +kernel)⟩
theorem lw_p3 : lw_okq (⟨"NameAuction", "canPay", "(II)Z"⟩, 6) := ⟨⟨by decide +kernel, by decide +kernel⟩, List.mem_of_getElem? (i := 17) (by decide +kernel), List.mem_of_getElem? (i := 276) (by decide +kernel), List.mem_of_getElem? (i := 277) (by decide +kernel)⟩
theorem lw_p4 : lw_okq (⟨"NameAuction", "pay", "(II)V"⟩, 6) := ⟨⟨by decide +kernel, by decide +kernel⟩, List.mem_of_getElem? (i := 17) (by decide +kernel), List.mem_of_getElem? (i := 280) (by decide +kernel), List.mem_of_getElem? (i := 281) (by decide +kernel)⟩
theorem lw_p5 : lw_okq (⟨"NameAuction$Name", "leaseTo", "(II)V"⟩, 11) := ⟨⟨by decide +kernel, by decide +kernel⟩, List.mem_of_getElem? (i := 28) (by decide +kernel), List.mem_of_getElem? (i := 291) (by decide +kernel), List.mem_of_getElem? (i := 292) (by decide +kernel)⟩
theorem lw_p6 : lw_okq (⟨"NameAuction$Name", "dropBids", "()V"⟩, 11) := ⟨⟨by decide +kernel, by decide +kernel⟩, List.mem_of_getElem? (i := 28) (by decide +kernel), List.mem_of_getElem? (i := 295) (by decide +kernel), List.mem_of_getElem? (i := 296) (by decide +kernel)⟩
theorem lw_p7 : lw_okq (⟨"NameAuction$Name", "dayOfChange", "()I"⟩, 11) := ⟨⟨by decide +kernel, by decide +kernel⟩, List.mem_of_getElem? (i := 28) (by decide +kernel), List.mem_of_getElem? (i := 395) (by decide +kernel), List.mem_of_getElem? (i := 396) (by decide +kernel)⟩
theorem lw_p8 : lw_okq (⟨"NameAuction$Name", "freeze", "(II)V"⟩, 11) := ⟨⟨by decide +kernel, by decide +kernel⟩, List.mem_of_getElem? (i := 28) (by decide +kernel), List.mem_of_getElem? (i := 406) (by decide +kernel), List.mem_of_getElem? (i := 407) (by decide +kernel)⟩
theorem lw_p9 : lw_okq (⟨"NameAuction$Name", "thaw", "(ZI)V"⟩, 11) := ⟨⟨by decide +kernel, by decide +kernel⟩, List.mem_of_getElem? (i := 28) (by decide +kernel), List.mem_of_getElem? (i := 417) (by decide +kernel), List.mem_of_getElem? (i := 418) (by decide +kernel)⟩
theorem lw_p10 : lw_okq (⟨"NameAuction$Name", "release", "()V"⟩, 11) := ⟨⟨by decide +kernel, by decide +kernel⟩, List.mem_of_getElem? (i := 28) (by decide +kernel), List.mem_of_getElem? (i := 422) (by decide +kernel), List.mem_of_getElem? (i := 423) (by decide +kernel)⟩
theorem lw_p11 : lw_okq (⟨"NameAuction", "changeNames", "()I"⟩, 6) := ⟨⟨by decide +kernel, by decide +kernel⟩, List.mem_of_getElem? (i := 17) (by decide +kernel), List.mem_of_getElem? (i := 433) (by decide +kernel), List.mem_of_getElem? (i := 434) (by decide +kernel)⟩
theorem lw_p12 : lw_okq (⟨"NameAuction$Name", "goOn", "()V"⟩, 11) := ⟨⟨by decide +kernel, by decide +kernel⟩, List.mem_of_getElem? (i := 28) (by decide +kernel), List.mem_of_getElem? (i := 437) (by decide +kernel), List.mem_of_getElem? (i := 438) (by decide +kernel)⟩
theorem lw_p13 : lw_okq (⟨"NameAuction", "closeAuction", "(LNameAuction$Name;)Z"⟩, 6) := ⟨⟨by decide +kernel, by decide +kernel⟩, List.mem_of_getElem? (i := 17) (by decide +kernel), List.mem_of_getElem? (i := 441) (by decide +kernel), List.mem_of_getElem? (i := 442) (by decide +kernel)⟩
theorem lw_p14 : lw_okq (⟨"NameAuction", "bestBidder", "(LNameAuction$Name;I)I"⟩, 6) := ⟨⟨by decide +kernel, by decide +kernel⟩, List.mem_of_getElem? (i := 17) (by decide +kernel), List.mem_of_getElem? (i := 445) (by decide +kernel), List.mem_of_getElem? (i := 446) (by decide +kernel)⟩
theorem lw_p15 : lw_okq (⟨"NameAuction$Name", "isAhead", "(II)Z"⟩, 11) := ⟨⟨by decide +kernel, by decide +kernel⟩, List.mem_of_getElem? (i := 28) (by decide +kernel), List.mem_of_getElem? (i := 449) (by decide +kernel), List.mem_of_getElem? (i := 450) (by decide +kernel)⟩
def lw_privs_1 : List (MethodName × Nat) := [(⟨"java/lang/Throwable", "fillInStackTrace", "(I)Ljava/lang/Throwable;"⟩, 6), (⟨"NameAuction$Name", "beginAuction", "(I)V"⟩, 11), (⟨"NameAuction$Name", "countBids", "()I"⟩, 11), (⟨"NameAuction", "canPay", "(II)Z"⟩, 6), (⟨"NameAuction", "pay", "(II)V"⟩, 6), (⟨"NameAuction$Name", "leaseTo", "(II)V"⟩, 11), (⟨"NameAuction$Name", "dropBids", "()V"⟩, 11), (⟨"NameAuction$Name", "dayOfChange", "()I"⟩, 11), (⟨"NameAuction$Name", "freeze", "(II)V"⟩, 11), (⟨"NameAuction$Name", "thaw", "(ZI)V"⟩, 11), (⟨"NameAuction$Name", "release", "()V"⟩, 11), (⟨"NameAuction", "changeNames", "()I"⟩, 6), (⟨"NameAuction$Name", "goOn", "()V"⟩, 11), (⟨"NameAuction", "closeAuction", "(LNameAuction$Name;)Z"⟩, 6), (⟨"NameAuction", "bestBidder", "(LNameAuction$Name;I)I"⟩, 6), (⟨"NameAuction$Name", "isAhead", "(II)Z"⟩, 11)]
theorem lw_r1 : ∀ q ∈ lw_privs_1, lw_okq q := List.forall_mem_cons.mpr ⟨lw_p0, List.forall_mem_cons.mpr ⟨lw_p1, List.forall_mem_cons.mpr ⟨lw_p2, List.forall_mem_cons.mpr ⟨lw_p3, List.forall_mem_cons.mpr ⟨lw_p4, List.forall_mem_cons.mpr ⟨lw_p5, List.forall_mem_cons.mpr ⟨lw_p6, List.forall_mem_cons.mpr ⟨lw_p7, List.forall_mem_cons.mpr ⟨lw_p8, List.forall_mem_cons.mpr ⟨lw_p9, List.forall_mem_cons.mpr ⟨lw_p10, List.forall_mem_cons.mpr ⟨lw_p11, List.forall_mem_cons.mpr ⟨lw_p12, List.forall_mem_cons.mpr ⟨lw_p13, List.forall_mem_cons.mpr ⟨lw_p14, List.forall_mem_cons.mpr ⟨lw_p15, fun _ h => absurd h List.not_mem_nil⟩⟩⟩⟩⟩⟩⟩⟩⟩⟩⟩⟩⟩⟩⟩⟩
theorem lw_p16 : lw_okq (⟨"NameAuction$Resolver", "isFresh", "(II)Z"⟩, 4) := ⟨⟨by decide +kernel, by decide +kernel⟩, List.mem_of_getElem? (i := 76) (by decide +kernel), List.mem_of_getElem? (i := 461) (by decide +kernel), List.mem_of_getElem? (i := 462) (by decide +kernel)⟩
theorem lw_p17 : lw_okq (⟨"NameAuction$Name", "answer", "()I"⟩, 11) := ⟨⟨by decide +kernel, by decide +kernel⟩, List.mem_of_getElem? (i := 28) (by decide +kernel), List.mem_of_getElem? (i := 465) (by decide +kernel), List.mem_of_getElem? (i := 466) (by decide +kernel)⟩
theorem lw_p18 : lw_okq (⟨"NameAuction$Name", "hasRecord", "()Z"⟩, 11) := ⟨⟨by decide +kernel, by decide +kernel⟩, List.mem_of_getElem? (i := 28) (by decide +kernel), List.mem_of_getElem? (i := 469) (by decide +kernel), List.mem_of_getElem? (i := 470) (by decide +kernel)⟩
theorem lw_p19 : lw_okq (⟨"NameAuction$Name", "answerLifetime", "()I"⟩, 11) := ⟨⟨by decide +kernel, by decide +kernel⟩, List.mem_of_getElem? (i := 28) (by decide +kernel), List.mem_of_getElem? (i := 474) (by decide +kernel), List.mem_of_getElem? (i := 475) (by decide +kernel)⟩
theorem lw_p20 : lw_okq (⟨"NameAuction$Resolver", "keep", "(IIII)V"⟩, 4) := ⟨⟨by decide +kernel, by decide +kernel⟩, List.mem_of_getElem? (i := 76) (by decide +kernel), List.mem_of_getElem? (i := 478) (by decide +kernel), List.mem_of_getElem? (i := 479) (by decide +kernel)⟩
theorem lw_p21 : lw_okq (⟨"NameAuction$Resolver", "forgetAll", "()I"⟩, 4) := ⟨⟨by decide +kernel, by decide +kernel⟩, List.mem_of_getElem? (i := 76) (by decide +kernel), List.mem_of_getElem? (i := 496) (by decide +kernel), List.mem_of_getElem? (i := 497) (by decide +kernel)⟩
theorem lw_p22 : lw_okq (⟨"NameAuctionModel", "fails", "(I)Z"⟩, 18) := ⟨⟨by decide +kernel, by decide +kernel⟩, List.mem_of_getElem? (i := 500) (by decide +kernel), List.mem_of_getElem? (i := 576) (by decide +kernel), List.mem_of_getElem? (i := 577) (by decide +kernel)⟩
theorem lw_p23 : lw_okq (⟨"NameAuctionModel", "pays", "(II)V"⟩, 18) := ⟨⟨by decide +kernel, by decide +kernel⟩, List.mem_of_getElem? (i := 500) (by decide +kernel), List.mem_of_getElem? (i := 599) (by decide +kernel), List.mem_of_getElem? (i := 600) (by decide +kernel)⟩
theorem lw_p24 : lw_okq (⟨"NameAuctionModel", "leases", "(II)V"⟩, 18) := ⟨⟨by decide +kernel, by decide +kernel⟩, List.mem_of_getElem? (i := 500) (by decide +kernel), List.mem_of_getElem? (i := 607) (by decide +kernel), List.mem_of_getElem? (i := 608) (by decide +kernel)⟩
theorem lw_p25 : lw_okq (⟨"NameAuctionModel", "signOf", "(II)C"⟩, 18) := ⟨⟨by decide +kernel, by decide +kernel⟩, List.mem_of_getElem? (i := 500) (by decide +kernel), List.mem_of_getElem? (i := 623) (by decide +kernel), List.mem_of_getElem? (i := 624) (by decide +kernel)⟩
theorem lw_p26 : lw_okq (⟨"NameAuctionModel", "nextOf", "(I)I"⟩, 18) := ⟨⟨by decide +kernel, by decide +kernel⟩, List.mem_of_getElem? (i := 500) (by decide +kernel), List.mem_of_getElem? (i := 638) (by decide +kernel), List.mem_of_getElem? (i := 639) (by decide +kernel)⟩
theorem lw_p27 : lw_okq (⟨"NameAuctionModel", "clears", "(I)V"⟩, 18) := ⟨⟨by decide +kernel, by decide +kernel⟩, List.mem_of_getElem? (i := 500) (by decide +kernel), List.mem_of_getElem? (i := 646) (by decide +kernel), List.mem_of_getElem? (i := 647) (by decide +kernel)⟩
theorem lw_p28 : lw_okq (⟨"NameAuctionModel", "goesOn", "(I)I"⟩, 18) := ⟨⟨by decide +kernel, by decide +kernel⟩, List.mem_of_getElem? (i := 500) (by decide +kernel), List.mem_of_getElem? (i := 658) (by decide +kernel), List.mem_of_getElem? (i := 659) (by decide +kernel)⟩
theorem lw_p29 : lw_okq (⟨"NameAuctionModel", "closes", "(I)I"⟩, 18) := ⟨⟨by decide +kernel, by decide +kernel⟩, List.mem_of_getElem? (i := 500) (by decide +kernel), List.mem_of_getElem? (i := 662) (by decide +kernel), List.mem_of_getElem? (i := 663) (by decide +kernel)⟩
theorem lw_p30 : lw_okq (⟨"NameAuctionModel", "bestBut", "(II)I"⟩, 18) := ⟨⟨by decide +kernel, by decide +kernel⟩, List.mem_of_getElem? (i := 500) (by decide +kernel), List.mem_of_getElem? (i := 666) (by decide +kernel), List.mem_of_getElem? (i := 667) (by decide +kernel)⟩
theorem lw_p31 : lw_okq (⟨"NameAuctionModel", "isYoung", "(I)Z"⟩, 18) := ⟨⟨by decide +kernel, by decide +kernel⟩, List.mem_of_getElem? (i := 500) (by decide +kernel), List.mem_of_getElem? (i := 685) (by decide +kernel), List.mem_of_getElem? (i := 686) (by decide +kernel)⟩
def lw_privs_2 : List (MethodName × Nat) := [(⟨"NameAuction$Resolver", "isFresh", "(II)Z"⟩, 4), (⟨"NameAuction$Name", "answer", "()I"⟩, 11), (⟨"NameAuction$Name", "hasRecord", "()Z"⟩, 11), (⟨"NameAuction$Name", "answerLifetime", "()I"⟩, 11), (⟨"NameAuction$Resolver", "keep", "(IIII)V"⟩, 4), (⟨"NameAuction$Resolver", "forgetAll", "()I"⟩, 4), (⟨"NameAuctionModel", "fails", "(I)Z"⟩, 18), (⟨"NameAuctionModel", "pays", "(II)V"⟩, 18), (⟨"NameAuctionModel", "leases", "(II)V"⟩, 18), (⟨"NameAuctionModel", "signOf", "(II)C"⟩, 18), (⟨"NameAuctionModel", "nextOf", "(I)I"⟩, 18), (⟨"NameAuctionModel", "clears", "(I)V"⟩, 18), (⟨"NameAuctionModel", "goesOn", "(I)I"⟩, 18), (⟨"NameAuctionModel", "closes", "(I)I"⟩, 18), (⟨"NameAuctionModel", "bestBut", "(II)I"⟩, 18), (⟨"NameAuctionModel", "isYoung", "(I)Z"⟩, 18)]
theorem lw_r2 : ∀ q ∈ lw_privs_2, lw_okq q := List.forall_mem_cons.mpr ⟨lw_p16, List.forall_mem_cons.mpr ⟨lw_p17, List.forall_mem_cons.mpr ⟨lw_p18, List.forall_mem_cons.mpr ⟨lw_p19, List.forall_mem_cons.mpr ⟨lw_p20, List.forall_mem_cons.mpr ⟨lw_p21, List.forall_mem_cons.mpr ⟨lw_p22, List.forall_mem_cons.mpr ⟨lw_p23, List.forall_mem_cons.mpr ⟨lw_p24, List.forall_mem_cons.mpr ⟨lw_p25, List.forall_mem_cons.mpr ⟨lw_p26, List.forall_mem_cons.mpr ⟨lw_p27, List.forall_mem_cons.mpr ⟨lw_p28, List.forall_mem_cons.mpr ⟨lw_p29, List.forall_mem_cons.mpr ⟨lw_p30, List.forall_mem_cons.mpr ⟨lw_p31, fun _ h => absurd h List.not_mem_nil⟩⟩⟩⟩⟩⟩⟩⟩⟩⟩⟩⟩⟩⟩⟩⟩
theorem lw_p32 : lw_okq (⟨"NameAuctionModel", "answerOf", "(I)I"⟩, 18) := ⟨⟨by decide +kernel, by decide +kernel⟩, List.mem_of_getElem? (i := 500) (by decide +kernel), List.mem_of_getElem? (i := 689) (by decide +kernel), List.mem_of_getElem? (i := 690) (by decide +kernel)⟩
theorem lw_p33 : lw_okq (⟨"NameAuctionModel", "hasRecord", "(I)Z"⟩, 18) := ⟨⟨by decide +kernel, by decide +kernel⟩, List.mem_of_getElem? (i := 500) (by decide +kernel), List.mem_of_getElem? (i := 693) (by decide +kernel), List.mem_of_getElem? (i := 694) (by decide +kernel)⟩
def lw_privs_3 : List (MethodName × Nat) := [(⟨"NameAuctionModel", "answerOf", "(I)I"⟩, 18), (⟨"NameAuctionModel", "hasRecord", "(I)Z"⟩, 18)]
theorem lw_r3 : ∀ q ∈ lw_privs_3, lw_okq q := List.forall_mem_cons.mpr ⟨lw_p32, List.forall_mem_cons.mpr ⟨lw_p33, fun _ h => absurd h List.not_mem_nil⟩⟩
def lw_privs : List (MethodName × Nat) := lw_privs_1 ++ (lw_privs_2 ++ (lw_privs_3))
def lw_tbl : List Cond := k2_sels lw_privs ++ tables_1
theorem lw_privs_ok : ∀ q ∈ lw_privs, lw_okq q := by
  show ∀ q ∈ lw_privs_1 ++ (lw_privs_2 ++ (lw_privs_3)), lw_okq q
  exact List.forall_mem_append.mpr ⟨lw_r1, List.forall_mem_append.mpr ⟨lw_r2, lw_r3⟩⟩
-- ===== end of PART A; then your names; then what follows =====
/-! THE CLAIM OUT OF ONE WALK OF THE LAW'S BODY. Your part is whole_start (and what it stands on); all else here is the same for every law, but numbers. -/
def R_law : String := "NameAuctionLaw"
def lw_P (b : Addr) (xs : List Int32) (args : Array Value) (s : State) : Prop := args = #[.ref b] ∧ s.IntsAt b xs ∧ xs.length ≤ 2048 ∧ (Jvm.Cond.and given_1 narrow_1).before args s = true
def lw_Q (_ : Array Value) (s : State) (o : Outcome) (t : State) : Prop := o = .returned (some (.int 1)) ∧ Framed s o t [] 631168 7202601
def lw_Z (below : List Frame) (a : Array Value) (s : State) : State → Prop := fun t => ∃ o, t.status = .running ∧ Ended t below o ∧ lw_Q a s o t
/-- the law's own end, with 1 on the stack, nothing written that was there before, its room as the claim has it -/
theorem lw_ret {p : Program} {l : Launch} {e : Env} {s : State} {m : MethodId} {below : List Frame} {meth : Method} {c : Code} {b : Nat} (hx : p.tables.exec = Jvm.exec) (hb : c.code = code) (hr : meth.sig.returnType = ret) (hlocks : meth.locks = false) {pc : Nat} {H : Heap} {ls : Array Slot} (hdg : decode code pc = .ok (.ireturn, 1)) : W p l e room_1 s m #[Value.ref b] below meth c H [] 631168 7202601 (lw_Z below #[Value.ref b] s) (F0 m pc ls [.int 1]) := by
  intro T hT X
  obtain ⟨fs, hret, hrun, hended, hW, hframe⟩ := X.leave (v := some (.int 1)) (hlocks := hlocks) (fun h => by rw [hr] at h; cases h)
  have hmeth' : T.vm.method? m = some meth := X.method'
  refine ⟨T.setFrames fs, ?_, .returned (some (.int 1)), hrun, hended, rfl, ⟨_, rfl⟩, hW, hframe⟩
  jvm_step X.here [X.here.top, hx, hb, hdg, hmeth', hr, ret, narrow_b1]
  (try refine ⟨rfl, ?_⟩); (try refine ⟨rfl, ?_⟩)
  first | (intro acts; rw [hret _ acts rfl rfl rfl]) | rw [hret _ _ rfl rfl rfl]
  exact Steps.refl _
/-- what holds at the law's entry: the machine, the code, the tables' words (any of lw_tbl by 'hts w (by decide +kernel)'), the script of L ints xs at the cell b, what the Statement gives of the start (any of its parts by flat_of_before) -/
def lw_At (p : Program) (s : State) (m : MethodId) (meth : Method) (c : Code) (b L : Nat) (xs : Nat → Int32) : Prop :=
  p.tables.exec = Jvm.exec ∧ c.code = code ∧ meth.sig.returnType = ret ∧ c.maxLocals = 7 ∧ s.vm.findClass R_law = some m.cls ∧ (∀ w ∈ lw_tbl, w.before #[Value.ref b] s = true) ∧ va_X b L xs s s.heap ∧ b < s.heap.size ∧ meth.locks = false ∧ (Jvm.Cond.and given_1 narrow_1).before #[Value.ref b] s = true
end
section
/-! ===== BEGIN words of one list among another's, by their places ===== -/
theorem goodIn_r {big : List Cond} (ws : List Cond) (ps : List Nat) (hp : ws = ps.filterMap (fun i => big[i]?)) (h : ws.all goodWord = true) : GoodIn big ws := by
  intro w hw
  have h1 := List.all_eq_true.mp h w hw
  rw [hp] at hw
  obtain ⟨i, -, hi⟩ := List.mem_filterMap.mp hw
  have hm : w ∈ big := by first | exact List.mem_of_getElem? hi | exact List.getElem?_mem hi
  exact ⟨hm, good_of_word h1⟩
theorem goodIn_app {big a b : List Cond} (ha : GoodIn big a) (hb : GoodIn big b) : GoodIn big (a ++ b) := fun w h => (List.mem_append.mp h).elim (ha w) (hb w)
theorem goodIn_ca {big a b : List Cond} {c : Cond} (ha : GoodIn big (c :: a)) (hb : GoodIn big b) : GoodIn big (c :: (a ++ b)) := fun w h => (List.mem_cons.mp h).elim (fun e => ha w (List.mem_cons.mpr (Or.inl e))) (fun h => (List.mem_append.mp h).elim (fun h => ha w (List.mem_cons.mpr (Or.inr h))) (hb w))
theorem goodIn_sub {big ws : List Cond} (hm : ∀ w ∈ ws, w ∈ big) (h : ws.all goodWord = true) : GoodIn big ws := fun w hw => ⟨hm w hw, good_of_word (List.all_eq_true.mp h w hw)⟩
/-! ===== END ===== -/

/-! ===== BEGIN exceptions that leave a method, and their catching by the caller (launches without stack traces) ===== -/
section VXA
/-! The laws vx_back, vx_callV, vx_callS, vx_callSW, vx_throw0, vx_throwS follow proofs of the library, with one case more: JvmDerived/Free/Laws.lean (Back.of_free), Shelf42/LK1.lean (callV, callS), Shelf/KitTraced.lean (throwNew0V, throwNewS). -/
/-- where a method has thrown q: the class by its name, the cell, what was written, the world -/
def vx_T (XC : String → State → State → Prop) (st : State) (q : Addr) (t : State) (mc ms : Nat) (free : Addr → Prop) : Prop :=
  ∃ (E : String) (ce : Cell) (L : List Loc), XC E st t ∧ t.heap[q]? = some ce ∧ ce.vm = .none ∧ st.vm.findClass E = some ce.cls ∧ st.WarmedH t.vm ∧ st.sameButNew ({ t with vm := st.vm } : State) L mc ms ∧ ∀ z ∈ L, free z.base
def vx_Q (Qc : Array Value → State → Outcome → State → Prop) (XC : String → State → State → Prop) (mc ms : Nat) (free : Addr → Prop) : Array Value → State → Outcome → State → Prop := fun a st o t =>
  (Qc a st o t ∧ ∃ L, FrameEnd st o t L mc ms ∧ ∀ q ∈ L, free q.base) ∨ ∃ q, o = .threw q ∧ vx_T XC st q t mc ms free
/-- a callee that returns or throws -/
def vx_Met (l : Launch) (y : MethodName) (ws : List Cond) (rm : Room) (Pc : Array Value → State → Prop) (Qc : Array Value → State → Outcome → State → Prop) (XC : String → State → State → Prop) (mc ms : Nat) (free : Addr → Prop) : Prop :=
  MetFree l y (headSpec ws rm) Pc (fun _ _ _ _ _ => True) (vx_Q Qc XC mc ms free)
def vx_Post (XC : String → State → State → Prop) (mc ms : Nat) (free : Addr → Prop) : Pt → Array Value → Addr → Pt → Prop := fun A a q B =>
  ∃ (g : JFrame) (mk : MethodId) (t : State) (L : List Loc) (E : String) (ce : Cell), B.U.heap = t.heap ∧ B.U.vm = t.vm ∧ XC E (A.U.calling g mk a) t ∧ t.heap[q]? = some ce ∧ ce.vm = .none ∧ A.U.vm.findClass E = some ce.cls ∧ B.locs = A.locs ++ L ∧ (∀ z ∈ L, free z.base) ∧ B.cells = A.cells + mc ∧ B.slots = A.slots + ms
def vx_Back (l : Launch) (R : Room) (p : Program) (e : Env) (below : List Frame) (s : State) (sargs : Array Value) (y : MethodName) (len W9 : Nat)
    (Pre : Pt → Array Value → Prop) (Post : Pt → Array Value → Option Value → Pt → Prop) (PostX : Pt → Array Value → Addr → Pt → Prop) : Prop :=
  ∀ (m : MethodId) (meth : Method) (c : Code) (A : Pt) (g : JFrame) (ig : Instr) (mk : MethodId) (a : Array Value),
    Stand p l e R s m sargs below meth c A.U A.locs A.cells A.slots → g.method = m → g.locals.size = c.maxLocals → decode c.code g.pc = .ok (ig, len) →
    2 * g.monitorRoom + (g.stack.map fun v => v.category).sum ≤ W9 → A.U.methodNamed? y = some mk → Pre A a →
    (∃ (v : Option Value) (B : Pt), Stand p l e R s m sargs below meth c B.U B.locs B.cells B.slots ∧ Post A a v B ∧
      Steps p.tables e below (doInvoke e (A.U.setTop g) [] mk a).1 (B.U.setTop { g with pc := g.pc + len, stack := v.toList ++ g.stack })) ∨
    (∃ (q : Addr) (B : Pt), Stand p l e R s m sargs below meth c B.U B.locs B.cells B.slots ∧ PostX A a q B ∧
      Steps p.tables e below (doInvoke e (A.U.setTop g) [] mk a).1 ((B.U.setTop g).pushFrame (.throwing q)))
section Payer
variable {l : Launch} {R : Room} {p : Program} {e : Env} {below : List Frame} {s : State} {sargs : Array Value} {y : MethodName} {len W9 : Nat}
theorem vx_back {ws : List Cond} {rm : Room} {Pc : Array Value → State → Prop} {Qc : Array Value → State → Outcome → State → Prop} {XC : String → State → State → Prop} {mc ms : Nat} {free : Addr → Prop} {bytes : ByteArray} {maxL : Nat} {ret : Option FieldType}
    (hM : vx_Met l y ws rm Pc Qc XC mc ms free) (hblind : FrameBlind Pc) (hrc : rm.cells = mc) (hrs : rm.slots = ms)
    (hframes : rm.frames + 1 ≤ R.frames) (hlocals : W9 + (maxL + 11) + rm.locals ≤ R.locals)
    (hws : ∀ w ∈ ws, ∀ a' U, s.WarmedH U.vm → w.before a' U = true) (hcode : Cond.code y bytes maxL ret ∈ ws) (hinit : ∀ a' U, s.WarmedH U.vm → (Cond.initialized y.cls).before a' U = true) :
    vx_Back l R p e below s sargs y len W9 (PreOf R mc ms Pc) (PostOf Qc mc ms free) (vx_Post XC mc ms free) := by
  intro m meth c A g ig mk a X hg hsize hdg hW hn hp
  have h1 : (headSpec ws rm).pre.before a A.U = true := atoms_intro fun w hw => hws w hw _ _ X.warmed
  have h2 : (Cond.code y bytes maxL ret).before a A.U = true := hws _ hcode _ _ X.warmed
  have h3 : (Cond.initialized y.cls).before a A.U = true := hinit _ _ X.warmed
  have h4 : A.cells + (headSpec ws rm).room.cells ≤ R.cells := by rw [show (headSpec ws rm).room.cells = mc from hrc]; exact hp.1
  have h5 : A.slots + (headSpec ws rm).room.slots ≤ R.slots := by rw [show (headSpec ws rm).room.slots = ms from hrs]; exact hp.2.1
  have hPc : Pc a (A.U.calling g mk a) := hblind _ _ _ _ hp.2.2
  obtain ⟨U, Ls, c0, s0⟩ := A
  dsimp only [Pt.U, Pt.locs, Pt.cells, Pt.slots] at h1 h2 h3 h4 h5 X hn hPc ⊢
  obtain ⟨methY, cY, hmY, hcY, -, hlY, -, -, -, -⟩ := Cond.code_spec hn h2
  obtain ⟨kY, hkY, -⟩ := className_of_methodNamed hn
  have hinitY : kY.init = .initialized := Cond.initialized_spec (findClass_of_methodNamed hn) hkY h3
  have h : At U g.method c below := by rw [hg]; exact X.here
  have hlocals9 : W9 + (maxL + 11) + (headSpec ws rm).room.locals ≤ R.locals := hlocals
  have happ : (headSpec ws rm).appliesLoose y e.platform (U.calling g mk a) = true :=
    Spec.appliesLoose_calling (g := g) h hdg hn hkY hinitY
      (X.room_calling (g := g) (R' := (headSpec ws rm).room) hsize hmY hcY hframes (by rw [hlY]; omega) h4 h5) h1
  obtain ⟨mid, hmid⟩ := h.above
  have hfr : (U.setTop g).frames = (.java g :: mid) ++ below := by rw [State.frames_setTop' g h.top, hmid]; rfl
  obtain ⟨o, s₂, hsteps, -, hend, hq⟩ := Steps.callFree hM p X.admits X.cas X.clock (acts := []) hfr happ hPc trivial
  have hq' : vx_Q Qc XC mc ms free a (U.calling g mk a) o s₂ := hq
  rw [State.frames_setTop' g h.top] at hend
  obtain ⟨g₀, hg0⟩ := Option.isSome_iff_exists.mp h.top
  obtain ⟨r, hr⟩ := State.topJava?_eq_some.mp hg0
  have hr' : (({ U with heap := s₂.heap, slotsUsed := s₂.slotsUsed } : State).setVm s₂.vm).frames = .java g₀ :: r := hr
  rcases hq' with ⟨hqc, L, hfe, hL⟩ | ⟨q, rfl, E, ce, L, hx, hce, hcv, hcl, hW₂, hsm, hL⟩
  · obtain ⟨⟨v, rfl⟩, hW₂, e2, q2, q3, q4, q5, q6⟩ := id hfe
    have e3 : s₂ = ({ (U.calling g mk a).setFrames s₂.frames with heap := s₂.heap, slotsUsed := s₂.slotsUsed } : State).setVm s₂.vm := by
      have : s₂ = ({ s₂ with vm := (U.calling g mk a).vm } : State).setVm s₂.vm := rfl
      rw [e2] at this
      exact this
    obtain ⟨c₂, i₂, len₂, hc₂, hd₂, hf₂⟩ := hend
    have hW' : U.WarmedH s₂.vm := hW₂
    have hcc : c₂ = c := by
      have h1 : s₂.code? g.method = U.code? g.method := by
        rw [State.code?_eq, State.code?_eq, hW'.alike.method?]
      exact Option.some.inj (hc₂.symm.trans (h1.trans h.code))
    subst hcc
    have hlen : len₂ = len := by rw [hdg] at hd₂; cases hd₂; rfl
    subst hlen
    have hs₂ : s₂ = (({ U with heap := s₂.heap, slotsUsed := s₂.slotsUsed } : State).setVm s₂.vm).setTop { g with pc := g.pc + len₂, stack := v.toList ++ g.stack } := by
      refine e3.trans ?_
      rw [hf₂, State.calling_eq h.top, State.setFrames_setFrames, State.setTop_of_frames _ hr', hr]
      rfl
    have hsame : U.sameButNew ({ U with heap := s₂.heap, slotsUsed := s₂.slotsUsed } : State) L mc ms := by
      refine ⟨?_, q2, q3, q4, q5, q6⟩
      obtain ⟨t, ht, -⟩ := State.frames_cons hr
      show ({ U with heap := s₂.heap, slotsUsed := s₂.slotsUsed } : State) = { U.setFrames U.frames with heap := s₂.heap, slotsUsed := s₂.slotsUsed }
      rw [State.setFrames_self ht]
    subst hg
    refine Or.inl ⟨v, ⟨(({ U with heap := s₂.heap, slotsUsed := s₂.slotsUsed } : State).setVm s₂.vm), Ls ++ L, c0 + mc, s0 + ms⟩,
      ⟨X.admits, X.cas, X.clock, X.frames, X.room, X.hears, X.method, X.code, (X.here.setHeapUsed s₂.heap s₂.slotsUsed).setVm hW'.alike, X.tail, State.WarmedH.trans X.warmed hW', X.limits, X.bytes, X.same.trans (hsame.setVm s.vm)⟩,
      ⟨g, mk, s₂, L, rfl, rfl, hqc, rfl, hL, rfl, rfl⟩, ?_⟩
    show Steps p.tables e below _ ((({ U with heap := s₂.heap, slotsUsed := s₂.slotsUsed } : State).setVm s₂.vm).setTop { g with pc := g.pc + len₂, stack := v.toList ++ g.stack })
    rw [← hs₂]
    exact hsteps
  · obtain ⟨e2, q2, q3, q4, q5, q6⟩ := id hsm
    have e3 : s₂ = ({ (U.calling g mk a).setFrames s₂.frames with heap := s₂.heap, slotsUsed := s₂.slotsUsed } : State).setVm s₂.vm := by
      have : s₂ = ({ s₂ with vm := (U.calling g mk a).vm } : State).setVm s₂.vm := rfl
      rw [e2] at this
      exact this
    have hf₂ : s₂.frames = .throwing q :: .java g :: U.frames.tail := hend
    have hW' : U.WarmedH s₂.vm := hW₂
    have hs₂ : s₂ = ((({ U with heap := s₂.heap, slotsUsed := s₂.slotsUsed } : State).setVm s₂.vm).setTop g).pushFrame (.throwing q) := by
      refine e3.trans ?_
      rw [hf₂, State.calling_eq h.top, State.setFrames_setFrames, State.pushFrame, State.frames_setTop _ hr', State.setTop_of_frames _ hr', State.setFrames_setFrames, hr]
      rfl
    have hsame : U.sameButNew ({ U with heap := s₂.heap, slotsUsed := s₂.slotsUsed } : State) L mc ms := by
      refine ⟨?_, q2, q3, q4, q5, q6⟩
      obtain ⟨t, ht, -⟩ := State.frames_cons hr
      show ({ U with heap := s₂.heap, slotsUsed := s₂.slotsUsed } : State) = { U.setFrames U.frames with heap := s₂.heap, slotsUsed := s₂.slotsUsed }
      rw [State.setFrames_self ht]
    subst hg
    refine Or.inr ⟨q, ⟨(({ U with heap := s₂.heap, slotsUsed := s₂.slotsUsed } : State).setVm s₂.vm), Ls ++ L, c0 + mc, s0 + ms⟩,
      ⟨X.admits, X.cas, X.clock, X.frames, X.room, X.hears, X.method, X.code, (X.here.setHeapUsed s₂.heap s₂.slotsUsed).setVm hW'.alike, X.tail, State.WarmedH.trans X.warmed hW', X.limits, X.bytes, X.same.trans (hsame.setVm s.vm)⟩,
      ⟨g, mk, s₂, L, E, ce, rfl, rfl, hx, hce, hcv, hcl, rfl, hL, rfl, rfl⟩, ?_⟩
    show Steps p.tables e below _ (((({ U with heap := s₂.heap, slotsUsed := s₂.slotsUsed } : State).setVm s₂.vm).setTop g).pushFrame (.throwing q))
    rw [← hs₂]
    exact hsteps
end Payer
section Calls
variable {p : Program} {l : Launch} {e : Env} {R : Room} {s : State} {m : MethodId} {args : Array Value} {below : List Frame} {meth : Method} {c : Code} {T : State} {locs : List Loc} {cells slots : Nat}
theorem vx_callV (X : Stand p l e R s m args below meth c T locs cells slots) (hexec : p.tables.exec = Jvm.exec) {own C : String} {index : Nat} {y : MethodName} {bytes : ByteArray} {maxL : Nat} {ret : Option FieldType}
    (hown : s.vm.findClass own = some m.cls) (hlink : (Cond.methodLink own index y).before args s = true) (hinst : (Cond.instanceMethod y).before args s = true) (hsel : (Cond.selects C y y).before args s = true)
    (hcode : (Cond.code y bytes maxL ret).before args s = true) (hy : y.cls ≠ "java/lang/invoke/MethodHandle" ∧ y.cls ≠ "java/lang/invoke/VarHandle")
    {W9 : Nat} {Pre : Pt → Array Value → Prop} {Post : Pt → Array Value → Option Value → Pt → Prop} {PostX : Pt → Array Value → Addr → Pt → Prop} (hK : vx_Back l R p e below s args y 3 W9 Pre Post PostX)
    {b : Addr} {cellB : Cell} (hcell : T.heap[b]? = some cellB) (hobj : cellB.vm.isStatics = false) (hcls : s.vm.findClass C = some cellB.cls)
    {g : JFrame} (hg : g.method = m) (hsize : g.locals.size = c.maxLocals) {argsL rest : List Value} (hlen : ∀ sig, parseMethodDescriptor y.desc = some sig → argsL.length = sig.parameters.length)
    (hstack : g.stack = argsL.reverse ++ .ref b :: rest) (hW : 2 * g.monitorRoom + (rest.map fun v => v.category).sum ≤ W9) (hdg : decode c.code g.pc = .ok (.invokevirtual index, 3))
    (hpre : ∀ vm₁, s.WarmedH vm₁ → Pre ⟨T.setVm vm₁, locs, cells, slots⟩ (Value.ref b :: argsL).toArray) :
    (∃ (v : Option Value) (vm₁ : Vm) (B : Pt), s.WarmedH vm₁ ∧ Stand p l e R s m args below meth c B.U B.locs B.cells B.slots ∧ Post ⟨T.setVm vm₁, locs, cells, slots⟩ (Value.ref b :: argsL).toArray v B ∧
      ∀ target, Steps p.tables e below (B.U.setTop { g with pc := g.pc + 3, stack := v.toList ++ rest }) target → Steps p.tables e below (T.setTop g) target) ∨
    (∃ (q : Addr) (vm₁ : Vm) (B : Pt), s.WarmedH vm₁ ∧ Stand p l e R s m args below meth c B.U B.locs B.cells B.slots ∧ PostX ⟨T.setVm vm₁, locs, cells, slots⟩ (Value.ref b :: argsL).toArray q B ∧
      Steps p.tables e below (T.setTop g) ((B.U.setTop { g with stack := rest }).pushFrame (.throwing q))) := by
  obtain ⟨mk, methM, hnamed, hmethM, hstM, habM⟩ := Cond.instanceMethod_spec hinst
  obtain ⟨methM', cM, hmethM', -, -, -, -, -, -, hsigM⟩ := Cond.code_spec hnamed hcode
  cases hmethM.symm.trans hmethM'
  obtain ⟨c2, r2, m2, q1, q2, q3, q4, kP, hkP, hkPi⟩ := Cond.selects_spec hsel
  cases hcls.symm.trans q1
  cases (State.methodFound?_of_named hnamed hy).symm.trans q2
  cases hnamed.symm.trans q3
  have hselP : selectMethod e.platform s.vm cellB.cls mk = .method mk := by rw [Launch.admits_selectMethod X.admits]; exact q4
  obtain ⟨vm₁, X₁, hstep₁⟩ := X.invokevirtual hexec hown hlink hnamed hmethM hstM hkP hkPi hy (a := b) (cell := cellB) hcell
    (fun z h => by rw [h] at hobj; cases hobj) hselP hmethM habM hkP hkPi (g := g) hg (argsL := argsL) (rest := rest) (hlen _ hsigM) hstack hdg
  rcases hK m meth c ⟨T.setVm vm₁, locs, cells, slots⟩ { g with stack := rest } (.invokevirtual index) mk (Value.ref b :: argsL).toArray X₁ hg hsize hdg hW (X₁.named hnamed) (hpre vm₁ X₁.warmed) with ⟨v, B, X', hpost, hsteps⟩ | ⟨q, B, X', hpost, hsteps⟩
  · exact Or.inl ⟨v, vm₁, B, X₁.warmed, X', hpost, fun target h => hstep₁ _ fun acts => by rw [doInvoke_state]; exact hsteps.trans h⟩
  · exact Or.inr ⟨q, vm₁, B, X₁.warmed, X', hpost, hstep₁ _ fun acts => by rw [doInvoke_state]; exact hsteps⟩
theorem vx_callS (X : Stand p l e R s m args below meth c T locs cells slots) (hexec : p.tables.exec = Jvm.exec) {own : String} {index : Nat} {y : MethodName} {bytes : ByteArray} {maxL : Nat} {ret : Option FieldType}
    (hown : s.vm.findClass own = some m.cls) (hlink : (Cond.methodLink own index y).before args s = true) (hstat : (Cond.static y).before args s = true) (hinit : (Cond.initialized y.cls).before args s = true)
    (hcode : (Cond.code y bytes maxL ret).before args s = true) (hy : y.cls ≠ "java/lang/invoke/MethodHandle" ∧ y.cls ≠ "java/lang/invoke/VarHandle")
    {W9 : Nat} {Pre : Pt → Array Value → Prop} {Post : Pt → Array Value → Option Value → Pt → Prop} {PostX : Pt → Array Value → Addr → Pt → Prop} (hK : vx_Back l R p e below s args y 3 W9 Pre Post PostX)
    {g : JFrame} (hg : g.method = m) (hsize : g.locals.size = c.maxLocals) {argsL rest : List Value} (hlen : ∀ sig, parseMethodDescriptor y.desc = some sig → argsL.length = sig.parameters.length)
    (hstack : g.stack = argsL.reverse ++ rest) (hW : 2 * g.monitorRoom + (rest.map fun v => v.category).sum ≤ W9) (hdg : decode c.code g.pc = .ok (.invokestatic index, 3))
    (hpre : ∀ vm₁, s.WarmedH vm₁ → Pre ⟨T.setVm vm₁, locs, cells, slots⟩ argsL.toArray) :
    (∃ (v : Option Value) (vm₁ : Vm) (B : Pt), s.WarmedH vm₁ ∧ Stand p l e R s m args below meth c B.U B.locs B.cells B.slots ∧ Post ⟨T.setVm vm₁, locs, cells, slots⟩ argsL.toArray v B ∧
      ∀ target, Steps p.tables e below (B.U.setTop { g with pc := g.pc + 3, stack := v.toList ++ rest }) target → Steps p.tables e below (T.setTop g) target) ∨
    (∃ (q : Addr) (vm₁ : Vm) (B : Pt), s.WarmedH vm₁ ∧ Stand p l e R s m args below meth c B.U B.locs B.cells B.slots ∧ PostX ⟨T.setVm vm₁, locs, cells, slots⟩ argsL.toArray q B ∧
      Steps p.tables e below (T.setTop g) ((B.U.setTop { g with stack := rest }).pushFrame (.throwing q))) := by
  obtain ⟨mk, hnamed⟩ := Cond.code_named hcode
  obtain ⟨methM, cM, hmethM, -, -, -, -, -, -, hsigM⟩ := Cond.code_spec hnamed hcode
  have hstatic : methM.isStatic = true := Cond.static_spec hnamed hmethM hstat
  obtain ⟨kP, hkP, -⟩ := className_of_methodNamed hnamed
  have hinitP : kP.init = .initialized := Cond.initialized_spec (findClass_of_methodNamed hnamed) hkP hinit
  obtain ⟨vm₁, X₁, hstep₁⟩ := X.invokestatic hexec hown hlink hnamed hmethM hstatic hkP hinitP hy (g := g) hg (argsL := argsL) (rest := rest) (hlen _ hsigM) hstack hdg
  rcases hK m meth c ⟨T.setVm vm₁, locs, cells, slots⟩ { g with stack := rest } (.invokestatic index) mk argsL.toArray X₁ hg hsize hdg hW (X₁.named hnamed) (hpre vm₁ X₁.warmed) with ⟨v, B, X', hpost, hsteps⟩ | ⟨q, B, X', hpost, hsteps⟩
  · exact Or.inl ⟨v, vm₁, B, X₁.warmed, X', hpost, fun target h => hstep₁ _ fun acts => by rw [doInvoke_state]; exact hsteps.trans h⟩
  · exact Or.inr ⟨q, vm₁, B, X₁.warmed, X', hpost, hstep₁ _ fun acts => by rw [doInvoke_state]; exact hsteps⟩
end Calls
theorem vx_cls {s : State} {T : State} {vm₁ : Vm} {E : String} {k : ClassId} (hW : s.WarmedH vm₁) (h : (T.setVm vm₁).vm.findClass E = some k) : s.vm.findClass E = some k := by
  have h1 : vm₁.findClass E = some k := h
  rw [hW.alike.findClass] at h1
  exact h1
/-- the method's frame g, with q thrown over it -/
def vx_W (p : Program) (l : Launch) (e : Env) (R : Room) (s : State) (m : MethodId) (args : Array Value) (below : List Frame) (meth : Method) (c : Code) (H : Heap) (locs : List Loc) (cells slots : Nat) (Q : State → Prop) (g : JFrame) (q : Addr) : Prop :=
  ∀ T : State, T.heap = H → Stand p l e R s m args below meth c T locs cells slots → ∃ t, Steps p.tables e below ((T.setTop g).pushFrame (.throwing q)) t ∧ Q t
def vx_Run (p : Program) (l : Launch) (e : Env) (R : Room) (s : State) (m : MethodId) (args : Array Value) (below : List Frame) (meth : Method) (c : Code) (H : Heap) (locs : List Loc) (cells slots mc ms : Nat) (g : JFrame) (rest : List Value) (Qa : State → Outcome → State → Prop) (XC : String → State → State → Prop) (free : Addr → Prop) : Prop :=
  ∀ T : State, T.heap = H → Stand p l e R s m args below meth c T locs cells slots →
    (∃ (v : Option Value) (st₀ t T' : State) (L : List Loc), st₀.heap = H ∧ Stand p l e R s m args below meth c T' (locs ++ L) (cells + mc) (slots + ms) ∧ (∀ q ∈ L, free q.base) ∧ T'.heap = t.heap ∧ T'.vm = t.vm ∧ Qa st₀ (.returned v) t ∧
      Goes p e below T g T' { g with pc := g.pc + 3, stack := v.toList ++ rest }) ∨
    (∃ (q : Addr) (st₀ t T' : State) (L : List Loc) (E : String) (ce : Cell), st₀.heap = H ∧ Stand p l e R s m args below meth c T' (locs ++ L) (cells + mc) (slots + ms) ∧ (∀ z ∈ L, free z.base) ∧ T'.heap = t.heap ∧ T'.vm = t.vm ∧ XC E st₀ t ∧ t.heap[q]? = some ce ∧ ce.vm = .none ∧ s.vm.findClass E = some ce.cls ∧
      Steps p.tables e below (T.setTop g) ((T'.setTop { g with stack := rest }).pushFrame (.throwing q)))
def vx_X {S : Type} (px : S → Prop) (B : String → S → State → Prop) (A : Nat → Prop) : String → State → State → Prop := fun E st t => ∃ u : S, px u ∧ B E u t ∧ va_F A st t
section Runs
variable {p : Program} {l : Launch} {e : Env} {R : Room} {s : State} {m : MethodId} {args : Array Value} {below : List Frame} {meth : Method} {c : Code} {H : Heap} {locs : List Loc} {cells slots : Nat}
variable {y : MethodName} {bytes cc : ByteArray} {maxL nL mc ms n index : Nat} {ret : Option FieldType} {ws : List Cond} {rm : Room} {Pc : Array Value → State → Prop} {Qc : Array Value → State → Outcome → State → Prop} {XC : String → State → State → Prop} {free : Addr → Prop} {Ts : List Cond} {own C : String} {b : Addr} {As rest : List Value} {g : JFrame}
theorem vx_callBack (cb : CallB R s args own index y bytes maxL ret ws rm mc ms n) (hM : vx_Met l y ws rm Pc Qc XC mc ms free) (hbl : FrameBlind Pc) : vx_Back l R p e below s args y 3 8 (PreOf R mc ms Pc) (PostOf Qc mc ms free) (vx_Post XC mc ms free) := by
  obtain ⟨hrc, hrs, hfr, hlo, hws, hcw, -, hini, -⟩ := cb
  exact vx_back (bytes := bytes) (maxL := maxL) (ret := ret) hM hbl hrc hrs hfr hlo hws hcw (fun a' U hW => word_at hW (Or.inl (by first | rfl | simp [Cond.onTables, Cond.keeps, Cond.steady])) hini)
theorem vx_runV (S : CallFix p m c cc nL s args Ts own) (hM : vx_Met l y ws rm Pc Qc XC mc ms free) (cw : CallW R s args own C index y bytes maxL ret ws rm mc ms n) (hp : PreV s H C b Pc As)
    (hg : g.method = m) (hn : As.length = n) (hsize : g.locals.size = nL) (hstack : g.stack = As.reverse ++ .ref b :: rest) (hW : 2 * g.monitorRoom + (rest.map fun v => v.category).sum ≤ 8) (hdg : decode cc g.pc = .ok (.invokevirtual index, 3)) (hf : cells + mc ≤ R.cells ∧ slots + ms ≤ R.slots) :
    vx_Run p l e R s m args below meth c H locs cells slots mc ms g rest (Qc (Value.ref b :: As).toArray) XC free := by
  have hK : vx_Back l R p e below s args y 3 8 (PreOf R mc ms Pc) (PostOf Qc mc ms free) (vx_Post XC mc ms free) := vx_callBack cw.1 hM hp.1
  obtain ⟨⟨-, -, -, -, -, -, hcode, -, hy, hlen, hl⟩, hin, hse⟩ := cw
  obtain ⟨hx, hb, hml, ho, -⟩ := S
  obtain ⟨-, ⟨cellB, hcB, hoB, hclB⟩, hPc⟩ := hp
  intro T hT X
  rcases vx_callV X hx (C := C) (bytes := bytes) (maxL := maxL) (ret := ret) ho hl hin hse hcode hy hK (by rw [hT]; exact hcB) hoB hclB hg (hsize.trans hml.symm) (argsL := As) (rest := rest) (fun sig h => hn.trans (hlen sig h)) hstack hW (by rw [hb]; exact hdg)
    (fun vm₁ hW₁ => ⟨hf.1, hf.2, hPc (T.setVm vm₁) hT hW₁⟩) with ⟨v, vm₁, ⟨U', l2, c2, s2⟩, hW₁, X', ⟨g', mk, t, L, e1, e2, hq, h1, hL, h2, h3⟩, st⟩ | ⟨q, vm₁, ⟨U', l2, c2, s2⟩, hW₁, X', ⟨g', mk, t, L, E, ce, e1, e2, hq, hce, hcv, hcl, h1, hL, h2, h3⟩, st⟩
  · dsimp only [Pt.U, Pt.locs, Pt.cells, Pt.slots] at X' e1 e2 h1 h2 h3 st
    subst h1; subst h2; subst h3
    exact Or.inl ⟨v, (T.setVm vm₁).calling g' mk (Value.ref b :: As).toArray, t, U', L, hT, X', hL, e1, e2, hq, st⟩
  · dsimp only [Pt.U, Pt.locs, Pt.cells, Pt.slots] at X' e1 e2 h1 h2 h3 st hcl
    subst h1; subst h2; subst h3
    exact Or.inr ⟨q, (T.setVm vm₁).calling g' mk (Value.ref b :: As).toArray, t, U', L, E, ce, hT, X', hL, e1, e2, hq, hce, hcv, vx_cls hW₁ hcl, st⟩
theorem vx_runS (S : CallFix p m c cc nL s args Ts own) (hM : vx_Met l y ws rm Pc Qc XC mc ms free) (cw : CallB R s args own index y bytes maxL ret ws rm mc ms n ∧ (Cond.static y).before args s = true) (hp : PreS s H Pc As)
    (hg : g.method = m) (hn : As.length = n) (hsize : g.locals.size = nL) (hstack : g.stack = As.reverse ++ rest) (hW : 2 * g.monitorRoom + (rest.map fun v => v.category).sum ≤ 8) (hdg : decode cc g.pc = .ok (.invokestatic index, 3)) (hf : cells + mc ≤ R.cells ∧ slots + ms ≤ R.slots) :
    vx_Run p l e R s m args below meth c H locs cells slots mc ms g rest (Qc As.toArray) XC free := by
  have hK : vx_Back l R p e below s args y 3 8 (PreOf R mc ms Pc) (PostOf Qc mc ms free) (vx_Post XC mc ms free) := vx_callBack cw.1 hM hp.1
  obtain ⟨⟨-, -, -, -, -, -, hcode, hini, hy, hlen, hl⟩, hstt⟩ := cw
  obtain ⟨hx, hb, hml, ho, -⟩ := S
  intro T hT X
  rcases vx_callS X hx (bytes := bytes) (maxL := maxL) (ret := ret) ho hl hstt hini hcode hy hK hg (hsize.trans hml.symm) (argsL := As) (rest := rest) (fun sig h => hn.trans (hlen sig h)) hstack hW (by rw [hb]; exact hdg)
    (fun vm₁ hW₁ => ⟨hf.1, hf.2, hp.2 (T.setVm vm₁) hT hW₁⟩) with ⟨v, vm₁, ⟨U', l2, c2, s2⟩, hW₁, X', ⟨g', mk, t, L, e1, e2, hq, h1, hL, h2, h3⟩, st⟩ | ⟨q, vm₁, ⟨U', l2, c2, s2⟩, hW₁, X', ⟨g', mk, t, L, E, ce, e1, e2, hq, hce, hcv, hcl, h1, hL, h2, h3⟩, st⟩
  · dsimp only [Pt.U, Pt.locs, Pt.cells, Pt.slots] at X' e1 e2 h1 h2 h3 st
    subst h1; subst h2; subst h3
    exact Or.inl ⟨v, (T.setVm vm₁).calling g' mk As.toArray, t, U', L, hT, X', hL, e1, e2, hq, st⟩
  · dsimp only [Pt.U, Pt.locs, Pt.cells, Pt.slots] at X' e1 e2 h1 h2 h3 st hcl
    subst h1; subst h2; subst h3
    exact Or.inr ⟨q, (T.setVm vm₁).calling g' mk As.toArray, t, U', L, E, ce, hT, X', hL, e1, e2, hq, hce, hcv, vx_cls hW₁ hcl, st⟩
end Runs
section Rows
variable {p : Program} {l : Launch} {e : Env} {R : Room} {s : State} {m : MethodId} {args : Array Value} {below : List Frame} {meth : Method} {c : Code} {H : Heap} {locs : List Loc} {cells slots : Nat} {Q : State → Prop}
variable {mc ms : Nat} {free : Addr → Prop} {A0 A1 : Nat → Prop} {H0 : Heap} {a : Array Value} {pc : Nat} {ls : Array Slot} {st0 rest : List Value}
theorem vx_keep {st₀ t T' : State} {L : List Loc} (h0 : st₀.heap = H) (e1 : T'.heap = t.heap) (hS : va_S A0 H0 H locs) (hA : ∀ q, q < H.size → A1 q → A0 q) (hf : ∀ q, free q → A0 q) (hL : ∀ q ∈ L, free q.base) (hF : va_F A1 st₀ t) :
    H.size ≤ T'.heap.size ∧ (∀ q : Nat, q < H.size → ¬ A1 q → T'.heap[q]? = H[q]?) ∧ va_S A0 H0 T'.heap (locs ++ L) := by
  obtain ⟨hz, hk⟩ := hF
  rw [h0] at hz hk
  exact ⟨by rw [e1]; exact hz, fun q h1 h2 => by rw [e1]; exact hk q h1 h2,
    ⟨Nat.le_trans hS.1 (by rw [e1]; exact hz), fun q h1 h2 => by rw [e1, hk q (Nat.lt_of_lt_of_le h1 hS.1) (fun z => h2 (hA q (Nat.lt_of_lt_of_le h1 hS.1) z))]; exact hS.2.1 q h1 h2, fun q hq => by
      rcases List.mem_append.mp hq with h | h
      · exact hS.2.2 q h
      · exact hf _ (hL q h)⟩⟩
theorem vx_calli {S SX : Type} {post : Int32 → S → Prop} {px : SX → Prop} {B : S → State → Prop} {BX : String → SX → State → Prop} {AX : Nat → Prop} (hr : vx_Run p l e R s m args below meth c H locs cells slots mc ms (F0 m pc ls st0) rest (va_Qi post B A1 a) (vx_X px BX AX) free) (hS : va_S A0 H0 H locs) (hA : ∀ q, q < H.size → A1 q → A0 q) (hf : ∀ q, free q → A0 q) (hAX : ∀ q, q < H.size → AX q → A0 q)
    (kx : ∀ (E : String) (ce : Cell) (q9 : Addr) (u : SX) (t : State) (H1 : Heap) (locs1 : List Loc), t.heap = H1 → s.vm.Alike t.vm → px u → BX E u t → H.size ≤ H1.size → (∀ q : Nat, q < H.size → ¬ AX q → H1[q]? = H[q]?) → va_S A0 H0 H1 locs1 → H1[q9]? = some ce → ce.vm = .none → s.vm.findClass E = some ce.cls → vx_W p l e R s m args below meth c H1 locs1 (cells + mc) (slots + ms) Q (F0 m pc ls rest) q9)
    (kk : ∀ (r : Int32) (u : S) (t : State) (H1 : Heap) (locs1 : List Loc), t.heap = H1 → s.vm.Alike t.vm → post r u → B u t → H.size ≤ H1.size → (∀ q : Nat, q < H.size → ¬ A1 q → H1[q]? = H[q]?) → va_S A0 H0 H1 locs1 → W p l e R s m args below meth c H1 locs1 (cells + mc) (slots + ms) Q (F0 m (pc + 3) ls (.int r :: rest))) : W p l e R s m args below meth c H locs cells slots Q (F0 m pc ls st0) := by
  intro T hT X
  rcases hr T hT X with ⟨v, st₀, t, T', L, h0, X', hL, e1, e2, ⟨⟨r, u, hv, hp, hb⟩, hF⟩, st⟩ | ⟨q, st₀, t, T', L, E, ce, h0, X', hL, e1, e2, ⟨u, hp, hb, hF⟩, hce, hcv, hcl, st⟩
  · cases hv
    obtain ⟨k1, k2, k3⟩ := vx_keep h0 e1 hS hA hf hL hF
    obtain ⟨t2, a1, b1⟩ := kk r u t T'.heap (locs ++ L) e1.symm (by rw [← e2]; exact X'.warmed.alike) hp hb k1 k2 k3 T' rfl X'
    exact ⟨t2, st t2 a1, b1⟩
  · obtain ⟨k1, k2, k3⟩ := vx_keep h0 e1 hS hAX hf hL hF
    obtain ⟨t2, a1, b1⟩ := kx E ce q u t T'.heap (locs ++ L) e1.symm (by rw [← e2]; exact X'.warmed.alike) hp hb k1 k2 k3 (by rw [e1]; exact hce) hcv hcl T' rfl X'
    exact ⟨t2, st.trans a1, b1⟩
theorem vx_calll {S SX : Type} {post : Int64 → S → Prop} {px : SX → Prop} {B : S → State → Prop} {BX : String → SX → State → Prop} {AX : Nat → Prop} (hr : vx_Run p l e R s m args below meth c H locs cells slots mc ms (F0 m pc ls st0) rest (va_Ql post B A1 a) (vx_X px BX AX) free) (hS : va_S A0 H0 H locs) (hA : ∀ q, q < H.size → A1 q → A0 q) (hf : ∀ q, free q → A0 q) (hAX : ∀ q, q < H.size → AX q → A0 q)
    (kx : ∀ (E : String) (ce : Cell) (q9 : Addr) (u : SX) (t : State) (H1 : Heap) (locs1 : List Loc), t.heap = H1 → s.vm.Alike t.vm → px u → BX E u t → H.size ≤ H1.size → (∀ q : Nat, q < H.size → ¬ AX q → H1[q]? = H[q]?) → va_S A0 H0 H1 locs1 → H1[q9]? = some ce → ce.vm = .none → s.vm.findClass E = some ce.cls → vx_W p l e R s m args below meth c H1 locs1 (cells + mc) (slots + ms) Q (F0 m pc ls rest) q9)
    (kk : ∀ (r : Int64) (u : S) (t : State) (H1 : Heap) (locs1 : List Loc), t.heap = H1 → s.vm.Alike t.vm → post r u → B u t → H.size ≤ H1.size → (∀ q : Nat, q < H.size → ¬ A1 q → H1[q]? = H[q]?) → va_S A0 H0 H1 locs1 → W p l e R s m args below meth c H1 locs1 (cells + mc) (slots + ms) Q (F0 m (pc + 3) ls (.long r :: rest))) : W p l e R s m args below meth c H locs cells slots Q (F0 m pc ls st0) := by
  intro T hT X
  rcases hr T hT X with ⟨v, st₀, t, T', L, h0, X', hL, e1, e2, ⟨⟨r, u, hv, hp, hb⟩, hF⟩, st⟩ | ⟨q, st₀, t, T', L, E, ce, h0, X', hL, e1, e2, ⟨u, hp, hb, hF⟩, hce, hcv, hcl, st⟩
  · cases hv
    obtain ⟨k1, k2, k3⟩ := vx_keep h0 e1 hS hA hf hL hF
    obtain ⟨t2, a1, b1⟩ := kk r u t T'.heap (locs ++ L) e1.symm (by rw [← e2]; exact X'.warmed.alike) hp hb k1 k2 k3 T' rfl X'
    exact ⟨t2, st t2 a1, b1⟩
  · obtain ⟨k1, k2, k3⟩ := vx_keep h0 e1 hS hAX hf hL hF
    obtain ⟨t2, a1, b1⟩ := kx E ce q u t T'.heap (locs ++ L) e1.symm (by rw [← e2]; exact X'.warmed.alike) hp hb k1 k2 k3 (by rw [e1]; exact hce) hcv hcl T' rfl X'
    exact ⟨t2, st.trans a1, b1⟩
theorem vx_callf {S SX : Type} {post : UInt32 → S → Prop} {px : SX → Prop} {B : S → State → Prop} {BX : String → SX → State → Prop} {AX : Nat → Prop} (hr : vx_Run p l e R s m args below meth c H locs cells slots mc ms (F0 m pc ls st0) rest (va_Qf post B A1 a) (vx_X px BX AX) free) (hS : va_S A0 H0 H locs) (hA : ∀ q, q < H.size → A1 q → A0 q) (hf : ∀ q, free q → A0 q) (hAX : ∀ q, q < H.size → AX q → A0 q)
    (kx : ∀ (E : String) (ce : Cell) (q9 : Addr) (u : SX) (t : State) (H1 : Heap) (locs1 : List Loc), t.heap = H1 → s.vm.Alike t.vm → px u → BX E u t → H.size ≤ H1.size → (∀ q : Nat, q < H.size → ¬ AX q → H1[q]? = H[q]?) → va_S A0 H0 H1 locs1 → H1[q9]? = some ce → ce.vm = .none → s.vm.findClass E = some ce.cls → vx_W p l e R s m args below meth c H1 locs1 (cells + mc) (slots + ms) Q (F0 m pc ls rest) q9)
    (kk : ∀ (r : UInt32) (u : S) (t : State) (H1 : Heap) (locs1 : List Loc), t.heap = H1 → s.vm.Alike t.vm → post r u → B u t → H.size ≤ H1.size → (∀ q : Nat, q < H.size → ¬ A1 q → H1[q]? = H[q]?) → va_S A0 H0 H1 locs1 → W p l e R s m args below meth c H1 locs1 (cells + mc) (slots + ms) Q (F0 m (pc + 3) ls (.float r :: rest))) : W p l e R s m args below meth c H locs cells slots Q (F0 m pc ls st0) := by
  intro T hT X
  rcases hr T hT X with ⟨v, st₀, t, T', L, h0, X', hL, e1, e2, ⟨⟨r, u, hv, hp, hb⟩, hF⟩, st⟩ | ⟨q, st₀, t, T', L, E, ce, h0, X', hL, e1, e2, ⟨u, hp, hb, hF⟩, hce, hcv, hcl, st⟩
  · cases hv
    obtain ⟨k1, k2, k3⟩ := vx_keep h0 e1 hS hA hf hL hF
    obtain ⟨t2, a1, b1⟩ := kk r u t T'.heap (locs ++ L) e1.symm (by rw [← e2]; exact X'.warmed.alike) hp hb k1 k2 k3 T' rfl X'
    exact ⟨t2, st t2 a1, b1⟩
  · obtain ⟨k1, k2, k3⟩ := vx_keep h0 e1 hS hAX hf hL hF
    obtain ⟨t2, a1, b1⟩ := kx E ce q u t T'.heap (locs ++ L) e1.symm (by rw [← e2]; exact X'.warmed.alike) hp hb k1 k2 k3 (by rw [e1]; exact hce) hcv hcl T' rfl X'
    exact ⟨t2, st.trans a1, b1⟩
theorem vx_calld {S SX : Type} {post : UInt64 → S → Prop} {px : SX → Prop} {B : S → State → Prop} {BX : String → SX → State → Prop} {AX : Nat → Prop} (hr : vx_Run p l e R s m args below meth c H locs cells slots mc ms (F0 m pc ls st0) rest (va_Qd post B A1 a) (vx_X px BX AX) free) (hS : va_S A0 H0 H locs) (hA : ∀ q, q < H.size → A1 q → A0 q) (hf : ∀ q, free q → A0 q) (hAX : ∀ q, q < H.size → AX q → A0 q)
    (kx : ∀ (E : String) (ce : Cell) (q9 : Addr) (u : SX) (t : State) (H1 : Heap) (locs1 : List Loc), t.heap = H1 → s.vm.Alike t.vm → px u → BX E u t → H.size ≤ H1.size → (∀ q : Nat, q < H.size → ¬ AX q → H1[q]? = H[q]?) → va_S A0 H0 H1 locs1 → H1[q9]? = some ce → ce.vm = .none → s.vm.findClass E = some ce.cls → vx_W p l e R s m args below meth c H1 locs1 (cells + mc) (slots + ms) Q (F0 m pc ls rest) q9)
    (kk : ∀ (r : UInt64) (u : S) (t : State) (H1 : Heap) (locs1 : List Loc), t.heap = H1 → s.vm.Alike t.vm → post r u → B u t → H.size ≤ H1.size → (∀ q : Nat, q < H.size → ¬ A1 q → H1[q]? = H[q]?) → va_S A0 H0 H1 locs1 → W p l e R s m args below meth c H1 locs1 (cells + mc) (slots + ms) Q (F0 m (pc + 3) ls (.double r :: rest))) : W p l e R s m args below meth c H locs cells slots Q (F0 m pc ls st0) := by
  intro T hT X
  rcases hr T hT X with ⟨v, st₀, t, T', L, h0, X', hL, e1, e2, ⟨⟨r, u, hv, hp, hb⟩, hF⟩, st⟩ | ⟨q, st₀, t, T', L, E, ce, h0, X', hL, e1, e2, ⟨u, hp, hb, hF⟩, hce, hcv, hcl, st⟩
  · cases hv
    obtain ⟨k1, k2, k3⟩ := vx_keep h0 e1 hS hA hf hL hF
    obtain ⟨t2, a1, b1⟩ := kk r u t T'.heap (locs ++ L) e1.symm (by rw [← e2]; exact X'.warmed.alike) hp hb k1 k2 k3 T' rfl X'
    exact ⟨t2, st t2 a1, b1⟩
  · obtain ⟨k1, k2, k3⟩ := vx_keep h0 e1 hS hAX hf hL hF
    obtain ⟨t2, a1, b1⟩ := kx E ce q u t T'.heap (locs ++ L) e1.symm (by rw [← e2]; exact X'.warmed.alike) hp hb k1 k2 k3 (by rw [e1]; exact hce) hcv hcl T' rfl X'
    exact ⟨t2, st.trans a1, b1⟩
theorem vx_callv {S SX : Type} {post : S → Prop} {px : SX → Prop} {B : S → State → Prop} {BX : String → SX → State → Prop} {AX : Nat → Prop} (hr : vx_Run p l e R s m args below meth c H locs cells slots mc ms (F0 m pc ls st0) rest (va_Qv post B A1 a) (vx_X px BX AX) free) (hS : va_S A0 H0 H locs) (hA : ∀ q, q < H.size → A1 q → A0 q) (hf : ∀ q, free q → A0 q) (hAX : ∀ q, q < H.size → AX q → A0 q)
    (kx : ∀ (E : String) (ce : Cell) (q9 : Addr) (u : SX) (t : State) (H1 : Heap) (locs1 : List Loc), t.heap = H1 → s.vm.Alike t.vm → px u → BX E u t → H.size ≤ H1.size → (∀ q : Nat, q < H.size → ¬ AX q → H1[q]? = H[q]?) → va_S A0 H0 H1 locs1 → H1[q9]? = some ce → ce.vm = .none → s.vm.findClass E = some ce.cls → vx_W p l e R s m args below meth c H1 locs1 (cells + mc) (slots + ms) Q (F0 m pc ls rest) q9)
    (kk : ∀ (u : S) (t : State) (H1 : Heap) (locs1 : List Loc), t.heap = H1 → s.vm.Alike t.vm → post u → B u t → H.size ≤ H1.size → (∀ q : Nat, q < H.size → ¬ A1 q → H1[q]? = H[q]?) → va_S A0 H0 H1 locs1 → W p l e R s m args below meth c H1 locs1 (cells + mc) (slots + ms) Q (F0 m (pc + 3) ls (rest))) : W p l e R s m args below meth c H locs cells slots Q (F0 m pc ls st0) := by
  intro T hT X
  rcases hr T hT X with ⟨v, st₀, t, T', L, h0, X', hL, e1, e2, ⟨⟨u, hv, hp, hb⟩, hF⟩, st⟩ | ⟨q, st₀, t, T', L, E, ce, h0, X', hL, e1, e2, ⟨u, hp, hb, hF⟩, hce, hcv, hcl, st⟩
  · cases hv
    obtain ⟨k1, k2, k3⟩ := vx_keep h0 e1 hS hA hf hL hF
    obtain ⟨t2, a1, b1⟩ := kk u t T'.heap (locs ++ L) e1.symm (by rw [← e2]; exact X'.warmed.alike) hp hb k1 k2 k3 T' rfl X'
    exact ⟨t2, st t2 a1, b1⟩
  · obtain ⟨k1, k2, k3⟩ := vx_keep h0 e1 hS hAX hf hL hF
    obtain ⟨t2, a1, b1⟩ := kx E ce q u t T'.heap (locs ++ L) e1.symm (by rw [← e2]; exact X'.warmed.alike) hp hb k1 k2 k3 (by rw [e1]; exact hce) hcv hcl T' rfl X'
    exact ⟨t2, st.trans a1, b1⟩
/-- caught by the row x of this method's table; the rows ahead don't take it -/
theorem vx_catch {own name : String} {E : String} {ce : Cell} {q : Addr} (hown : s.vm.findClass own = some m.cls) (pre : List ExceptionTableEntry) (x : ExceptionTableEntry) (suf : List ExceptionTableEntry) (hsplit : c.exceptionTable.toList = pre ++ x :: suf)
    (hpass : ∀ z ∈ pre, covers z pc = false ∨ (z.catchType ≠ 0 ∧ ∃ nm : String, (Cond.classLink own z.catchType nm).before args s = true ∧ va_Nc E nm s)) (hx : covers x pc = true) (h0 : x.catchType ≠ 0)
    (hlink : (Cond.classLink own x.catchType name).before args s = true) (hcast : (Cond.castable E name).before args s = true) (hcell : H[q]? = some ce) (hv : ce.vm = .none) (hcl : s.vm.findClass E = some ce.cls)
    (kk : W p l e R s m args below meth c H locs cells slots Q (F0 m x.handlerPc ls [.ref q])) : vx_W p l e R s m args below meth c H locs cells slots Q (F0 m pc ls rest) q := by
  intro T hT X
  have hpl : e.platform.magicAccessors = ({} : Platform).magicAccessors := by rw [X.admits.platform]
  obtain ⟨c3, c4, hc3, hc4, hasg⟩ := Cond.castable_spec hcast
  cases Option.some.inj (hc3.symm.trans hcl)
  obtain ⟨c5, hc5, hcl5⟩ := Cond.classLink_spec hown hlink e.platform hpl
  cases Option.some.inj (hc4.symm.trans hc5)
  obtain ⟨vm', X', st⟩ := X.thenCaughtThrough q (g := F0 m pc ls rest) rfl (Steps.refl _) (by rw [hT]; exact hcell) (by rw [hv]; rfl) (by obtain ⟨k9, h9, -⟩ := Vm.findClass_spec hcl; exact ⟨k9, h9⟩) pre x suf hsplit
    (fun z hz => by
      rcases hpass z hz with h | ⟨hz0, nm, hl1, hn1⟩
      · exact Or.inl h
      · obtain ⟨c6, hc6, hcl6⟩ := Cond.classLink_spec hown hl1 e.platform hpl
        obtain ⟨a8, b8, h1, h2, h3⟩ := hn1
        cases Option.some.inj (h1.symm.trans hcl)
        cases Option.some.inj (h2.symm.trans hc6)
        exact Or.inr ⟨hz0, _, hcl6, h3⟩) hx (Or.inr ⟨h0, c4, hcl5, hasg⟩)
  obtain ⟨t, a1, b1⟩ := kk (T.setVm vm') hT X'
  exact ⟨t, st.trans a1, b1⟩
end Rows
section Ends
variable {p : Program} {l : Launch} {e : Env} {R : Room} {s : State} {m : MethodId} {args : Array Value} {below : List Frame} {meth : Method} {c : Code} {H : Heap} {locs : List Loc} {cells slots : Nat} {Q : State → Prop}
variable {mc ms : Nat} {free : Addr → Prop} {A0 A1 : Nat → Prop} {H0 : Heap} {a : Array Value} {ls : Array Slot} {st0 rest : List Value}
variable {Qc : Array Value → State → Outcome → State → Prop} {XC : String → State → State → Prop}
/-- what a body that may throw owes at its end -/
def vx_MQ (below : List Frame) (Qc : Array Value → State → Outcome → State → Prop) (XC : String → State → State → Prop) (a : Array Value) (s : State) (mc ms : Nat) (free : Addr → Prop) : State → Prop := fun t =>
  ∃ o, t.status = .running ∧ Ended t below o ∧ vx_Q Qc XC mc ms free a s o t
theorem vx_ret {g : JFrame} {mc ms : Nat} (k : W p l e R s m args below meth c H locs cells slots (MQ below Qc args s mc ms free) g) : W p l e R s m args below meth c H locs cells slots (vx_MQ below Qc XC args s mc ms free) g := by
  intro T hT X
  obtain ⟨t, a1, o, b1, b2, b3, b4⟩ := k T hT X
  exact ⟨t, a1, o, b1, b2, Or.inl ⟨b3, b4⟩⟩
/-- not caught here: it goes on to the caller -/
theorem vx_widen {g : JFrame} {q : Addr} {k n : Nat} (h1 : cells ≤ k) (h2 : slots ≤ n) (kk : vx_W p l e R s m args below meth c H locs k n Q g q) : vx_W p l e R s m args below meth c H locs cells slots Q g q := fun T hT X => kk T hT (stand_widen X h1 h2)
theorem vx_out {pc : Nat} {E : String} {ce : Cell} {q : Addr} {mc ms : Nat} (hout : ∀ x ∈ c.exceptionTable.toList, covers x pc = false) (hlocks : meth.locks = false) (hcell : H[q]? = some ce) (hv : ce.vm = .none) (hcl : s.vm.findClass E = some ce.cls)
    (hx : ∀ t : State, t.heap = H → s.vm.Alike t.vm → XC E s t) (hf : ∀ z ∈ locs, free z.base) (hc : cells ≤ mc) (hs : slots ≤ ms) :
    vx_W p l e R s m args below meth c H locs cells slots (vx_MQ below Qc XC args s mc ms free) (F0 m pc ls rest) q := by
  intro T hT X
  obtain ⟨st1, hrun, hend, hW, hsm⟩ := X.leaveThrown q (g := F0 m pc ls rest) rfl rfl rfl hout hlocks
  have hcell9 : (T.setFrames (.throwing q :: below)).heap[q]? = some ce := by
    show T.heap[q]? = some ce
    rw [hT]; exact hcell
  exact ⟨_, st1, .threw q, hrun, hend, Or.inr ⟨q, rfl, E, ce, locs, hx _ hT hW.alike, hcell9, hv, hcl, hW, hsm.mono hc hs, hf⟩⟩
theorem vx_frame {U : State} {k n : Nat} (h : s.sameButNew ({ U with vm := s.vm } : State) locs k n) : s.heap.size ≤ U.heap.size ∧ ∀ q : Nat, q < s.heap.size → (∀ z ∈ locs, z.base ≠ q) → U.heap[q]? = s.heap[q]? := by
  obtain ⟨-, h2, -, -, -, h6⟩ := h
  refine ⟨h2, fun q hq hz => ?_⟩
  obtain ⟨c9, e1, e2, e3, e4⟩ := h6 q _ (Array.getElem?_eq_getElem hq)
  have hs : c9.slots = (s.heap[q]).slots := Array.ext_getElem? fun i => e4 i fun hm => hz _ hm rfl
  have h9 : c9 = s.heap[q] := by
    rw [hs] at e2
    exact e2
  have e5 : U.heap[q]? = some c9 := e1
  rw [e5, h9, Array.getElem?_eq_getElem hq]
/-- the words of a throw but the four that speak of the heap -/
def vx_no (w : Cond) : Bool := decide (w ≠ .isRef (.static Bundle.tN "UNASSIGNED_STACK" Bundle.steD)) && decide (w ≠ .isRef (.static Bundle.tN "SUPPRESSED_SENTINEL" Bundle.listD)) && decide (w ≠ .laysStatic Bundle.tN "UNASSIGNED_STACK" Bundle.steD) && decide (w ≠ .laysStatic Bundle.tN "SUPPRESSED_SENTINEL" Bundle.listD)
def vx_at0 (own : String) (ic : Nat) (X : String) (names : List String) : List Cond := (Bundle.ownAtoms0 own ic X names).filter vx_no
def vx_atS (own : String) (ic : Nat) (X : String) (names : List String) : List Cond := (Bundle.ownAtoms own ic X names).filter vx_no
/-- a word that the tables alone decide, or a good one -/
def vx_ot (w : Cond) : Bool := w.onTables || goodWord w
theorem vx_ot_at {args a' : Array Value} {s U : State} {w : Cond} (hW : s.WarmedH U.vm) (hvm : s.vm = U.vm) (hg : vx_ot w = true) (h : w.before args s = true) : w.before a' U = true := by
  simp only [vx_ot, Bool.or_eq_true] at hg
  rcases hg with hg | hg
  · exact va_tabs hg hvm h
  · exact word_at hW (good_of_word hg) h
/-- a list's words: the good ones out of the method's own list, the others by premises of their own -/
theorem vx_hat {args : Array Value} {s : State} {L B : List Cond} (h1 : ∀ w ∈ L.filter goodWord, w.before args s = true) (h2 : ∀ w ∈ L.filter (fun w => !goodWord w), w ∈ B) (h3 : ∀ w ∈ B, w.before args s = true) : ∀ w ∈ L, w.before args s = true := by
  intro w hw
  by_cases g : goodWord w = true
  · exact h1 w (List.mem_filter.mpr ⟨hw, g⟩)
  · refine h3 w (h2 w (List.mem_filter.mpr ⟨hw, ?_⟩))
    show (!goodWord w) = true
    cases hgw : goodWord w
    · rfl
    · exact absurd hgw g
theorem vx_c {args : Array Value} {s : State} {w : Cond} {B : List Cond} (h : w.before args s = true) (t : ∀ w ∈ B, w.before args s = true) : ∀ w' ∈ w :: B, w'.before args s = true := fun w' h' => (List.mem_cons.mp h').elim (fun e => by rw [e]; exact h) (t w')
theorem vx_n {args : Array Value} {s : State} : ∀ w ∈ ([] : List Cond), w.before args s = true := fun _ h => nomatch h
theorem vx_own {args : Array Value} {s : State} {L : List Cond} (h1 : ∀ w ∈ L.filter vx_no, w.before args s = true)
    (hU : (Cond.isRef (.static Bundle.tN "UNASSIGNED_STACK" Bundle.steD)).before args s = true) (hN : (Cond.isRef (.static Bundle.tN "SUPPRESSED_SENTINEL" Bundle.listD)).before args s = true)
    (lU : (Cond.laysStatic Bundle.tN "UNASSIGNED_STACK" Bundle.steD).before args s = true) (lN : (Cond.laysStatic Bundle.tN "SUPPRESSED_SENTINEL" Bundle.listD).before args s = true) : ∀ w ∈ L, w.before args s = true := by
  intro w hw
  by_cases e1 : w = .isRef (.static Bundle.tN "UNASSIGNED_STACK" Bundle.steD)
  · rw [e1]; exact hU
  · by_cases e2 : w = .isRef (.static Bundle.tN "SUPPRESSED_SENTINEL" Bundle.listD)
    · rw [e2]; exact hN
    · by_cases e3 : w = .laysStatic Bundle.tN "UNASSIGNED_STACK" Bundle.steD
      · rw [e3]; exact lU
      · by_cases e4 : w = .laysStatic Bundle.tN "SUPPRESSED_SENTINEL" Bundle.listD
        · rw [e4]; exact lN
        · exact h1 w (List.mem_filter.mpr ⟨hw, by unfold vx_no; rw [decide_eq_true e1, decide_eq_true e2, decide_eq_true e3, decide_eq_true e4]; rfl⟩)
/-- where a static field lies, its class's statics cell in H -/
def vx_L (C n d : String) (A : Nat → Prop) (U : State) (H : Heap) : Prop := ∃ (c : ClassId) (k : Class) (i : Nat) (f : Field) (a : Nat) (cell : Cell), U.vm.findClass C = some c ∧ U.fieldFound? C n d = some (c, k, i, f) ∧ f.isStatic = true ∧ k.statics = some a ∧ H[a]? = some cell ∧ cell.vm.isStatics = true ∧ cell.cls = c ∧ f.slot < cell.slots.size ∧ k.staticTypes[f.slot]? = some f.type ∧ ¬ A a
theorem vx_L.moved {C n d : String} {A : Nat → Prop} {u U : State} {H : Heap} (hvm : u.vm.Alike U.vm) (h : vx_L C n d A u H) : vx_L C n d A U H := by
  obtain ⟨c, k, i, f, a, cell, h1, h2, h3, h4, h5, h6, h7, h8, h9, h10⟩ := h
  obtain ⟨k', hi', he⟩ := State.fieldFound?_setVm hvm h2
  exact ⟨c, k', i, f, a, cell, by rw [hvm.findClass]; exact h1, hi', h3, by rw [he]; exact h4, h5, h6, h7, h8, by rw [he]; exact h9, h10⟩
theorem vx_L.kept {C n d : String} {A : Nat → Prop} {U : State} {H H1 : Heap} (h : vx_L C n d A U H) (hq : ∀ a : Nat, a < H.size → ¬ A a → H1[a]? = H[a]?) : vx_L C n d A U H1 := by
  obtain ⟨c, k, i, f, a, cell, h1, h2, h3, h4, h5, h6, h7, h8, h9, h10⟩ := h
  exact ⟨c, k, i, f, a, cell, h1, h2, h3, h4, by rw [hq a (Array.getElem?_eq_some_iff.mp h5).1 h10]; exact h5, h6, h7, h8, h9, h10⟩
theorem vx_L.narrow {C n d : String} {A B : Nat → Prop} {U : State} {H : Heap} (h : vx_L C n d A U H) (hAB : ∀ q, B q → A q) : vx_L C n d B U H := by
  obtain ⟨c, k, i, f, a, cell, h1, h2, h3, h4, h5, h6, h7, h8, h9, h10⟩ := h
  exact ⟨c, k, i, f, a, cell, h1, h2, h3, h4, h5, h6, h7, h8, h9, fun z => h10 (hAB _ z)⟩
theorem vx_L.word {C n d : String} {A : Nat → Prop} {s : State} {args : Array Value} (h : vx_L C n d A s s.heap) : (Cond.laysStatic C n d).before args s = true := by
  obtain ⟨c, k, i, f, a, cell, h1, h2, h3, h4, h5, h6, h7, h8, h9, -⟩ := h
  show (Cond.laysStatic C n d).holds args s none s [] = true
  exact Cond.laysStatic_of h1 h2 h3 h4 h5 h6 h7 h8 h9
/-- .. and what it holds: null or some reference -/
def vx_Zq (C n d : String) (A : Nat → Prop) (U : State) (H : Heap) : Prop := va_Zq C n d A U H ∧ vx_L C n d A U H
theorem vx_Zq.moved {C n d : String} {A : Nat → Prop} {u U : State} {H : Heap} (hvm : u.vm.Alike U.vm) (h : vx_Zq C n d A u H) : vx_Zq C n d A U H := ⟨va_Zq.moved hvm h.1, vx_L.moved hvm h.2⟩
theorem vx_Zq.kept {C n d : String} {A : Nat → Prop} {U : State} {H H1 : Heap} (h : vx_Zq C n d A U H) (hq : ∀ a : Nat, a < H.size → ¬ A a → H1[a]? = H[a]?) : vx_Zq C n d A U H1 := ⟨va_Zq.kept h.1 hq, vx_L.kept h.2 hq⟩
theorem vx_Zq.narrow {C n d : String} {A B : Nat → Prop} {U : State} {H : Heap} (h : vx_Zq C n d A U H) (hAB : ∀ q, B q → A q) : vx_Zq C n d B U H := ⟨va_Zq.narrow h.1 hAB, vx_L.narrow h.2 hAB⟩
theorem vx_Zqof {args : Array Value} {s : State} {C n d : String} {A : Nat → Prop} (hl : (Cond.laysStatic C n d).before args s = true) (hini : (Cond.initialized C).before args s = true) (h : (Cond.isRef (.static C n d)).before args s = true) (hA : ∀ a : Nat, a < s.heap.size → ¬ A a) : vx_Zq C n d A s s.heap := by
  refine ⟨va_Zqof hl hini h hA, ?_⟩
  obtain ⟨c, k, i, f, a, cell, h1, h2, h3, h4, h5, h6, h7, h8, h9⟩ := Cond.laysStatic_spec hl
  exact ⟨c, k, i, f, a, cell, h1, h2, h3, h4, h5, h6, h7, h8, h9, hA a (Array.getElem?_eq_some_iff.mp h5).1⟩
theorem vx_isRef {C n d : String} {v : Value} {A : Nat → Prop} {s : State} {args : Array Value} (h : va_Z C n d v A s s.heap) (hv : v.isRef = true) : (Cond.isRef (.static C n d)).before args s = true := by
  obtain ⟨cf, kf, fi, f, a, cell, h1, h2, h3, h4, h5, h6, h7, -⟩ := h
  have he : (Term.static C n d).eval args s none [] s = some v := by
    simp [Term.eval, State.fieldNamed?, h1, h2, h4, h5, h6, h7]
  simp only [Cond.before, Cond.holds, Cond.value, he]
  cases v <;> simp_all [Value.isRef]
theorem vx_isRefq {C n d : String} {A : Nat → Prop} {s : State} {args : Array Value} (h : va_Zq C n d A s s.heap) : (Cond.isRef (.static C n d)).before args s = true := by
  rcases h with h | ⟨t, h⟩
  · exact vx_isRef h rfl
  · exact vx_isRef h rfl
/-- the same frame, seen from here: as if the method were called anew in this heap -/
theorem vx_rebase {T : State} (X : Stand p l e R s m args below meth c T locs cells slots) {R' : Room} (hf : R'.frames ≤ R.frames) (hl : R'.locals ≤ R.locals) (hc : cells + R'.cells ≤ R.cells) (hs : slots + R'.slots ≤ R.slots) :
    Stand p l e R' ((T.setVm s.vm).setFrames (.invoking m args :: below)) m args below meth c T [] 0 0 := by
  have htop : (T.setVm s.vm).topJava?.isSome := X.here.top
  have hF : ((T.setVm s.vm).setFrames (.invoking m args :: below)).frames = .invoking m args :: below := State.frames_setFrames _ (State.cur_lt_of_top htop)
  obtain ⟨g₀, hg0⟩ := Option.isSome_iff_exists.mp htop
  obtain ⟨r, hr⟩ := State.topJava?_eq_some.mp hg0
  have hl9 : e.platform.stackLimits (T.setVm s.vm).me = e.platform.stackLimits s.me := X.limits
  have hb9 : (T.setVm s.vm).me.stackBytes = s.me.stackBytes := X.bytes
  refine ⟨X.admits, X.cas, X.clock, hF, ?_, X.hears, X.method, X.code, X.here, X.tail, X.warmed, ?_, ?_, ?_⟩
  · have h := X.room
    have hU : ((T.setVm s.vm).setFrames (.invoking m args :: below)).localsInUse = s.localsInUse := by
      rw [State.localsInUse_invoking hF (meth := meth) (c := c) X.method X.code, State.localsInUse_invoking X.frames X.method X.code]
    simp only [State.hasRoom, Bool.and_eq_true, decide_eq_true_eq] at h ⊢
    obtain ⟨⟨⟨⟨h1, h2, h3, h4, h5, h6⟩, h7⟩, h8⟩, h9⟩ := h
    rw [X.frames, List.length_cons] at h2 h3
    have q1 := X.heapSize
    have q2 := X.used
    simp only [hF, hU, List.length_cons, State.stackLimits_setFrames, State.stackBytes_setFrames, hl9, hb9]
    refine ⟨⟨⟨⟨by omega, by omega, by omega, by omega, by omega, h6⟩, ?_⟩, ?_⟩, X.book⟩
    · show T.heap.size + R'.cells ≤ e.platform.maxCells
      omega
    · show T.slotsUsed + R'.slots ≤ e.platform.maxSlots
      omega
  · rw [State.stackLimits_setFrames]; rfl
  · rw [State.stackBytes_setFrames]; rfl
  · refine ⟨?_, Nat.le_refl _, Nat.le_refl _, ?_, ?_, fun a c9 h9 => ⟨c9, h9, rfl, rfl, fun _ _ => rfl⟩⟩
    · obtain ⟨t, ht, -⟩ := State.frames_cons hr
      show T.setVm s.vm = { ((T.setVm s.vm).setFrames (.invoking m args :: below)).setFrames (T.setVm s.vm).frames with heap := T.heap, slotsUsed := T.slotsUsed }
      rw [State.setFrames_setFrames, State.setFrames_self ht]
      rfl
    · show T.slotsUsed = T.slotsUsed + ((T.heap.toList.drop T.heap.size).map (·.slots.size)).sum
      rw [List.drop_eq_nil_of_le (Nat.le_of_eq Array.length_toList)]
      rfl
    · show ((T.heap.toList.drop T.heap.size).map (·.slots.size)).sum ≤ 0
      rw [List.drop_eq_nil_of_le (Nat.le_of_eq Array.length_toList)]
      exact Nat.le_refl _
/-- 'throw new E()': new; dup; invokespecial; athrow -/
theorem vx_throw0 {cc : ByteArray} {pc : Nat} (hexec : p.tables.exec = Jvm.exec) (hb : c.code = cc) (hl : l.stackTraces = false) {own cls : String} {names : List String} {ik ic mc ms : Nat} {A : Nat → Prop}
    (hown : s.vm.findClass own = some m.cls) (hcls : Bundle.fit cls = true) (hnames : ∀ n ∈ names, Bundle.fit n = true)
    (hk : (Cond.classLink own ik cls).before args s = true) (hini : (Cond.initialized cls).before args s = true) (hat : ∀ w ∈ vx_at0 own ic cls names, w.before args s = true)
    (hgood : ∀ w ∈ Cond.classLink own ik cls :: Cond.initialized cls :: vx_at0 own ic cls names, vx_ot w = true)
    (hU : vx_Zq Bundle.tN "UNASSIGNED_STACK" Bundle.steD A s s.heap) (hN : vx_Zq Bundle.tN "SUPPRESSED_SENTINEL" Bundle.listD A s s.heap) (hS : va_S A s.heap H locs) (hsize : ls.size = c.maxLocals)
    (d0 : decode cc pc = .ok (.new ik, 3)) (d3 : decode cc (pc + 3) = .ok (.dup, 1)) (d4 : decode cc (pc + 4) = .ok (.invokespecial ic, 3)) (d7 : decode cc (pc + 7) = .ok (.athrow, 1))
    (hout : ∀ x ∈ c.exceptionTable.toList, covers x (pc + 7) = false)
    (hRframes : names.length + 3 < R.frames) (hRlocals : (rest.map fun v => v.category).sum + (13 * (names.length + 1) + 42) ≤ R.locals) (hRcells : cells + 1 ≤ R.cells) (hRslots : slots + 6 ≤ R.slots) (hlocks : meth.locks = false)
    (hx : ∀ t : State, s.vm.Alike t.vm → H.size ≤ t.heap.size → (∀ q : Nat, q < H.size → t.heap[q]? = H[q]?) → XC cls s t)
    (hf : ∀ z ∈ locs, free z.base) (hc : cells + 1 ≤ mc) (hs : slots + 6 ≤ ms) :
    W p l e R s m args below meth c H locs cells slots (vx_MQ below Qc XC args s mc ms free) (F0 m pc ls rest) := by
  intro T hT X
  have htr : e.platform.stackTraces = false := (show e.platform.stackTraces = l.stackTraces by rw [X.admits.platform]).trans hl
  have Y := vx_rebase X (R' := { frames := R.frames, locals := R.locals, cells := 1, slots := 6 }) (Nat.le_refl _) (Nat.le_refl _) hRcells hRslots
  obtain ⟨s', hA⟩ : ∃ z, z = (T.setVm s.vm).setFrames (.invoking m args :: below) := ⟨_, rfl⟩
  rw [← hA] at Y
  have hvm : s'.vm = s.vm := by rw [hA]; rfl
  have hhp : s'.heap = H := by rw [hA]; exact hT
  have hW0 : s.WarmedH s'.vm := by rw [hvm]; exact State.WarmedH.refl s
  have hat' : ∀ w ∈ vx_at0 own ic cls names, w.before args s' = true := fun w hw => vx_ot_at hW0 hvm.symm (hgood w (List.mem_cons_of_mem _ (List.mem_cons_of_mem _ hw))) (hat w hw)
  have hk' : (Cond.classLink own ik cls).before args s' = true := vx_ot_at hW0 hvm.symm (hgood _ List.mem_cons_self) hk
  have hini' : (Cond.initialized cls).before args s' = true := vx_ot_at hW0 hvm.symm (hgood _ (List.mem_cons_of_mem _ List.mem_cons_self)) hini
  have hU' : vx_Zq Bundle.tN "UNASSIGNED_STACK" Bundle.steD A s' s'.heap := by rw [hhp]; exact vx_Zq.moved hW0.alike (hU.kept hS.2.1)
  have hN' : vx_Zq Bundle.tN "SUPPRESSED_SENTINEL" Bundle.listD A s' s'.heap := by rw [hhp]; exact vx_Zq.moved hW0.alike (hN.kept hS.2.1)
  have h : ∀ w ∈ Bundle.ownAtoms0 own ic cls names, w.before args s' = true := vx_own hat' (vx_isRefq hU'.1) (vx_isRefq hN'.1) hU'.2.word hN'.2.word
  have hown' : s'.vm.findClass own = some m.cls := by rw [hvm]; exact hown
  have hins : (Cond.instantiable cls 6).before args s' = true := h _ (by simp [Bundle.ownAtoms0])
  obtain ⟨vm₁, cX, kX, hfX, hkX, -, -, X₁, st1⟩ := Y.newCold hexec (own := own) (C := cls) (index := ik) (n := 6) hown' hk' hins hini'
    (g := F0 m pc ls rest) rfl (by rw [hb]; exact d0) (Nat.le_refl _) (Nat.le_refl _)
  generalize hT1 : (T.setVm vm₁).pushCell { cls := cX, slots := kX.instanceTypes.map defaultValue, vm := .none } = T1 at X₁ st1
  have hcat : (Value.ref T.heap.size).category = 1 := rfl
  have hcellA : T1.heap[T.heap.size]? = some (freshCell cX kX) := by rw [← hT1]; exact State.heap_pushCell_size _ _
  have d3' : decode c.code (pc + 3) = .ok (.dup, 1) := by rw [hb]; exact d3
  obtain ⟨U, hsteps, hrun, hend, hW, hsame, ce, hce, hO⟩ := X₁.ctorThrow0 hexec htr (own := own) (cls := cls) (names := names) (ic := ic) hown' hcls hnames h (fun x hx => nomatch hx) hfX hkX hcellA (by rw [hhp, hT]; exact Nat.le_refl _)
    (g := { method := m, pc := pc + 4, locals := ls, stack := .ref T.heap.size :: .ref T.heap.size :: rest, locked := none }) rfl hsize rfl rfl (rest := rest) rfl
    (by rw [hb]; exact d4) (by rw [hb]; exact d7) hout hRframes (by simp only [List.map_cons, List.sum_cons, hcat]; omega) hlocks
  obtain ⟨f1, f2⟩ := vx_frame hsame
  rw [hhp] at f1 f2
  have hWs : s.WarmedH U.vm := State.WarmedH.trans hW0 hW
  have hcl : s.vm.findClass cls = some ce.cls := by
    have h9 := hO.cls
    rw [hvm] at h9
    exact h9
  have hall : s.sameButNew ({ U with vm := s.vm } : State) locs mc ms := by
    subst hA
    obtain ⟨e1, e2⟩ := hsame
    rw [State.setFrames_setFrames] at e1
    have h2 : (T.setVm s.vm).sameButNew ({ U with vm := s.vm } : State) [] (0 + 1) (0 + 6) := ⟨e1, e2⟩
    have h3 := X.same.trans h2
    rw [List.append_nil] at h3
    exact h3.mono hc hs
  refine ⟨U, ?_, .threw T.heap.size, hrun, hend, Or.inr ⟨T.heap.size, rfl, cls, ce, locs, hx U hWs.alike f1 (fun q hq => f2 q hq (fun z hz => nomatch hz)), hce, hO.vm, hcl, hWs, hall, hf⟩⟩
  refine st1 _ ?_
  show Steps p.tables e below (T1.setTop { method := m, pc := pc + 3, locals := ls, stack := .ref T.heap.size :: rest, locked := none }) _
  jvm_step X₁.here [X₁.here.top, hexec, d3', Value.category]
  exact hsteps
/-- 'throw new E("text")': new; dup; ldc; invokespecial; athrow -/
theorem vx_throwS {cc : ByteArray} {pc : Nat} (hexec : p.tables.exec = Jvm.exec) (hb : c.code = cc) (hl : l.stackTraces = false) {own cls text : String} {names : List String} {ik is ic mc ms sa : Nat} {A : Nat → Prop}
    (hown : s.vm.findClass own = some m.cls) (hcls : Bundle.fit cls = true) (hnames : ∀ n ∈ names, Bundle.fit n = true)
    (hk : (Cond.classLink own ik cls).before args s = true) (hini : (Cond.initialized cls).before args s = true) (hstr : vk_R own is text sa s) (hat : ∀ w ∈ vx_atS own ic cls names, w.before args s = true)
    (hgood : ∀ w ∈ Cond.classLink own ik cls :: Cond.initialized cls :: vx_atS own ic cls names, vx_ot w = true)
    (hU : vx_Zq Bundle.tN "UNASSIGNED_STACK" Bundle.steD A s s.heap) (hN : vx_Zq Bundle.tN "SUPPRESSED_SENTINEL" Bundle.listD A s s.heap) (hS : va_S A s.heap H locs) (hsize : ls.size = c.maxLocals)
    (d0 : decode cc pc = .ok (.new ik, 3)) (d3 : decode cc (pc + 3) = .ok (.dup, 1)) (d4 : decode cc (pc + 4) = .ok (.ldc is, 2)) (d6 : decode cc (pc + 6) = .ok (.invokespecial ic, 3)) (d9 : decode cc (pc + 9) = .ok (.athrow, 1))
    (hout : ∀ x ∈ c.exceptionTable.toList, covers x (pc + 9) = false)
    (hRframes : names.length + 3 < R.frames) (hRlocals : (rest.map fun v => v.category).sum + (13 * (names.length + 1) + 43) ≤ R.locals) (hRcells : cells + 1 ≤ R.cells) (hRslots : slots + 6 ≤ R.slots) (hlocks : meth.locks = false)
    (hx : ∀ t : State, s.vm.Alike t.vm → H.size ≤ t.heap.size → (∀ q : Nat, q < H.size → t.heap[q]? = H[q]?) → XC cls s t)
    (hf : ∀ z ∈ locs, free z.base) (hc : cells + 1 ≤ mc) (hs : slots + 6 ≤ ms) :
    W p l e R s m args below meth c H locs cells slots (vx_MQ below Qc XC args s mc ms free) (F0 m pc ls rest) := by
  intro T hT X
  have htr : e.platform.stackTraces = false := (show e.platform.stackTraces = l.stackTraces by rw [X.admits.platform]).trans hl
  have Y := vx_rebase X (R' := { frames := R.frames, locals := R.locals, cells := 1, slots := 6 }) (Nat.le_refl _) (Nat.le_refl _) hRcells hRslots
  obtain ⟨s', hA⟩ : ∃ z, z = (T.setVm s.vm).setFrames (.invoking m args :: below) := ⟨_, rfl⟩
  rw [← hA] at Y
  have hvm : s'.vm = s.vm := by rw [hA]; rfl
  have hhp : s'.heap = H := by rw [hA]; exact hT
  have hW0 : s.WarmedH s'.vm := by rw [hvm]; exact State.WarmedH.refl s
  have hat' : ∀ w ∈ vx_atS own ic cls names, w.before args s' = true := fun w hw => vx_ot_at hW0 hvm.symm (hgood w (List.mem_cons_of_mem _ (List.mem_cons_of_mem _ hw))) (hat w hw)
  have hk' : (Cond.classLink own ik cls).before args s' = true := vx_ot_at hW0 hvm.symm (hgood _ List.mem_cons_self) hk
  have hini' : (Cond.initialized cls).before args s' = true := vx_ot_at hW0 hvm.symm (hgood _ (List.mem_cons_of_mem _ List.mem_cons_self)) hini
  have hU' : vx_Zq Bundle.tN "UNASSIGNED_STACK" Bundle.steD A s' s'.heap := by rw [hhp]; exact vx_Zq.moved hW0.alike (hU.kept hS.2.1)
  have hN' : vx_Zq Bundle.tN "SUPPRESSED_SENTINEL" Bundle.listD A s' s'.heap := by rw [hhp]; exact vx_Zq.moved hW0.alike (hN.kept hS.2.1)
  have h : ∀ w ∈ Bundle.ownAtoms own ic cls names, w.before args s' = true := vx_own hat' (vx_isRefq hU'.1) (vx_isRefq hN'.1) hU'.2.word hN'.2.word
  have hown' : s'.vm.findClass own = some m.cls := by rw [hvm]; exact hown
  have hins : (Cond.instantiable cls 6).before args s' = true := h _ (by simp [Bundle.ownAtoms])
  obtain ⟨vm₁, cX, kX, hfX, hkX, -, -, X₁, st1⟩ := Y.newCold hexec (own := own) (C := cls) (index := ik) (n := 6) hown' hk' hins hini'
    (g := F0 m pc ls rest) rfl (by rw [hb]; exact d0) (Nat.le_refl _) (Nat.le_refl _)
  generalize hT1 : (T.setVm vm₁).pushCell { cls := cX, slots := kX.instanceTypes.map defaultValue, vm := .none } = T1 at X₁ st1
  have hcat : (Value.ref T.heap.size).category = 1 := rfl
  have hcellA : T1.heap[T.heap.size]? = some (freshCell cX kX) := by rw [← hT1]; exact State.heap_pushCell_size _ _
  have d3' : decode c.code (pc + 3) = .ok (.dup, 1) := by rw [hb]; exact d3
  have d4' : decode c.code (pc + 4) = .ok (.ldc is, 2) := by rw [hb]; exact d4
  have hstr' : vk_R own is text sa s' := vk_R.warm hW0 hstr
  obtain ⟨U, hsteps, hrun, hend, hW, hsame, ce, hce, hO⟩ := X₁.ctorThrowS hexec htr (own := own) (cls := cls) (names := names) (ic := ic) hown' hcls hnames h (fun x hx => nomatch hx) hfX hkX hcellA (by rw [hhp, hT]; exact Nat.le_refl _) (msg := .ref sa) rfl
    (g := { method := m, pc := pc + 6, locals := ls, stack := .ref sa :: .ref T.heap.size :: .ref T.heap.size :: rest, locked := none }) rfl hsize rfl rfl (rest := rest) rfl
    (by rw [hb]; exact d6) (by rw [hb]; exact d9) hout hRframes (by simp only [List.map_cons, List.sum_cons, hcat]; omega) hlocks
  obtain ⟨f1, f2⟩ := vx_frame hsame
  rw [hhp] at f1 f2
  have hWs : s.WarmedH U.vm := State.WarmedH.trans hW0 hW
  have hcl : s.vm.findClass cls = some ce.cls := by
    have h9 := hO.cls
    rw [hvm] at h9
    exact h9
  have hall : s.sameButNew ({ U with vm := s.vm } : State) locs mc ms := by
    subst hA
    obtain ⟨e1, e2⟩ := hsame
    rw [State.setFrames_setFrames] at e1
    have h2 : (T.setVm s.vm).sameButNew ({ U with vm := s.vm } : State) [] (0 + 1) (0 + 6) := ⟨e1, e2⟩
    have h3 := X.same.trans h2
    rw [List.append_nil] at h3
    exact h3.mono hc hs
  refine ⟨U, ?_, .threw T.heap.size, hrun, hend, Or.inr ⟨T.heap.size, rfl, cls, ce, locs, hx U hWs.alike f1 (fun q hq => f2 q hq (fun z hz => nomatch hz)), hce, hO.vm, hcl, hWs, hall, hf⟩⟩
  refine st1 _ ?_
  show Steps p.tables e below (T1.setTop { method := m, pc := pc + 3, locals := ls, stack := .ref T.heap.size :: rest, locked := none }) _
  jvm_step X₁.here [X₁.here.top, hexec, d3', Value.category]
  exact X₁.ldcString hexec (own := own) (text := text) (index := is) (a := sa) hown' hstr'.1 hstr'.2
    (g := { method := m, pc := pc + 4, locals := ls, stack := .ref T.heap.size :: .ref T.heap.size :: rest, locked := none }) rfl d4' _ hsteps
/-- 'throw new E("text")', the text by a wide index -/
theorem vx_throwSW {cc : ByteArray} {pc : Nat} (hexec : p.tables.exec = Jvm.exec) (hb : c.code = cc) (hl : l.stackTraces = false) {own cls text : String} {names : List String} {ik is ic mc ms sa : Nat} {A : Nat → Prop}
    (hown : s.vm.findClass own = some m.cls) (hcls : Bundle.fit cls = true) (hnames : ∀ n ∈ names, Bundle.fit n = true)
    (hk : (Cond.classLink own ik cls).before args s = true) (hini : (Cond.initialized cls).before args s = true) (hstr : vk_R own is text sa s) (hat : ∀ w ∈ vx_atS own ic cls names, w.before args s = true)
    (hgood : ∀ w ∈ Cond.classLink own ik cls :: Cond.initialized cls :: vx_atS own ic cls names, vx_ot w = true)
    (hU : vx_Zq Bundle.tN "UNASSIGNED_STACK" Bundle.steD A s s.heap) (hN : vx_Zq Bundle.tN "SUPPRESSED_SENTINEL" Bundle.listD A s s.heap) (hS : va_S A s.heap H locs) (hsize : ls.size = c.maxLocals)
    (d0 : decode cc pc = .ok (.new ik, 3)) (d3 : decode cc (pc + 3) = .ok (.dup, 1)) (d4 : decode cc (pc + 4) = .ok (.ldc_w is, 3)) (d7 : decode cc (pc + 7) = .ok (.invokespecial ic, 3)) (d10 : decode cc (pc + 10) = .ok (.athrow, 1))
    (hout : ∀ x ∈ c.exceptionTable.toList, covers x (pc + 10) = false)
    (hRframes : names.length + 3 < R.frames) (hRlocals : (rest.map fun v => v.category).sum + (13 * (names.length + 1) + 43) ≤ R.locals) (hRcells : cells + 1 ≤ R.cells) (hRslots : slots + 6 ≤ R.slots) (hlocks : meth.locks = false)
    (hx : ∀ t : State, s.vm.Alike t.vm → H.size ≤ t.heap.size → (∀ q : Nat, q < H.size → t.heap[q]? = H[q]?) → XC cls s t)
    (hf : ∀ z ∈ locs, free z.base) (hc : cells + 1 ≤ mc) (hs : slots + 6 ≤ ms) :
    W p l e R s m args below meth c H locs cells slots (vx_MQ below Qc XC args s mc ms free) (F0 m pc ls rest) := by
  intro T hT X
  have htr : e.platform.stackTraces = false := (show e.platform.stackTraces = l.stackTraces by rw [X.admits.platform]).trans hl
  have Y := vx_rebase X (R' := { frames := R.frames, locals := R.locals, cells := 1, slots := 6 }) (Nat.le_refl _) (Nat.le_refl _) hRcells hRslots
  obtain ⟨s', hA⟩ : ∃ z, z = (T.setVm s.vm).setFrames (.invoking m args :: below) := ⟨_, rfl⟩
  rw [← hA] at Y
  have hvm : s'.vm = s.vm := by rw [hA]; rfl
  have hhp : s'.heap = H := by rw [hA]; exact hT
  have hW0 : s.WarmedH s'.vm := by rw [hvm]; exact State.WarmedH.refl s
  have hat' : ∀ w ∈ vx_atS own ic cls names, w.before args s' = true := fun w hw => vx_ot_at hW0 hvm.symm (hgood w (List.mem_cons_of_mem _ (List.mem_cons_of_mem _ hw))) (hat w hw)
  have hk' : (Cond.classLink own ik cls).before args s' = true := vx_ot_at hW0 hvm.symm (hgood _ List.mem_cons_self) hk
  have hini' : (Cond.initialized cls).before args s' = true := vx_ot_at hW0 hvm.symm (hgood _ (List.mem_cons_of_mem _ List.mem_cons_self)) hini
  have hU' : vx_Zq Bundle.tN "UNASSIGNED_STACK" Bundle.steD A s' s'.heap := by rw [hhp]; exact vx_Zq.moved hW0.alike (hU.kept hS.2.1)
  have hN' : vx_Zq Bundle.tN "SUPPRESSED_SENTINEL" Bundle.listD A s' s'.heap := by rw [hhp]; exact vx_Zq.moved hW0.alike (hN.kept hS.2.1)
  have h : ∀ w ∈ Bundle.ownAtoms own ic cls names, w.before args s' = true := vx_own hat' (vx_isRefq hU'.1) (vx_isRefq hN'.1) hU'.2.word hN'.2.word
  have hown' : s'.vm.findClass own = some m.cls := by rw [hvm]; exact hown
  have hins : (Cond.instantiable cls 6).before args s' = true := h _ (by simp [Bundle.ownAtoms])
  obtain ⟨vm₁, cX, kX, hfX, hkX, -, -, X₁, st1⟩ := Y.newCold hexec (own := own) (C := cls) (index := ik) (n := 6) hown' hk' hins hini'
    (g := F0 m pc ls rest) rfl (by rw [hb]; exact d0) (Nat.le_refl _) (Nat.le_refl _)
  generalize hT1 : (T.setVm vm₁).pushCell { cls := cX, slots := kX.instanceTypes.map defaultValue, vm := .none } = T1 at X₁ st1
  have hcat : (Value.ref T.heap.size).category = 1 := rfl
  have hcellA : T1.heap[T.heap.size]? = some (freshCell cX kX) := by rw [← hT1]; exact State.heap_pushCell_size _ _
  have d3' : decode c.code (pc + 3) = .ok (.dup, 1) := by rw [hb]; exact d3
  have d4' : decode c.code (pc + 4) = .ok (.ldc_w is, 3) := by rw [hb]; exact d4
  have hstr' : vk_R own is text sa s' := vk_R.warm hW0 hstr
  obtain ⟨U, hsteps, hrun, hend, hW, hsame, ce, hce, hO⟩ := X₁.ctorThrowS hexec htr (own := own) (cls := cls) (names := names) (ic := ic) hown' hcls hnames h (fun x hx => nomatch hx) hfX hkX hcellA (by rw [hhp, hT]; exact Nat.le_refl _) (msg := .ref sa) rfl
    (g := { method := m, pc := pc + 7, locals := ls, stack := .ref sa :: .ref T.heap.size :: .ref T.heap.size :: rest, locked := none }) rfl hsize rfl rfl (rest := rest) rfl
    (by rw [hb]; exact d7) (by rw [hb]; exact d10) hout hRframes (by simp only [List.map_cons, List.sum_cons, hcat]; omega) hlocks
  obtain ⟨f1, f2⟩ := vx_frame hsame
  rw [hhp] at f1 f2
  have hWs : s.WarmedH U.vm := State.WarmedH.trans hW0 hW
  have hcl : s.vm.findClass cls = some ce.cls := by
    have h9 := hO.cls
    rw [hvm] at h9
    exact h9
  have hall : s.sameButNew ({ U with vm := s.vm } : State) locs mc ms := by
    subst hA
    obtain ⟨e1, e2⟩ := hsame
    rw [State.setFrames_setFrames] at e1
    have h2 : (T.setVm s.vm).sameButNew ({ U with vm := s.vm } : State) [] (0 + 1) (0 + 6) := ⟨e1, e2⟩
    have h3 := X.same.trans h2
    rw [List.append_nil] at h3
    exact h3.mono hc hs
  refine ⟨U, ?_, .threw T.heap.size, hrun, hend, Or.inr ⟨T.heap.size, rfl, cls, ce, locs, hx U hWs.alike f1 (fun q hq => f2 q hq (fun z hz => nomatch hz)), hce, hO.vm, hcl, hWs, hall, hf⟩⟩
  refine st1 _ ?_
  show Steps p.tables e below (T1.setTop { method := m, pc := pc + 3, locals := ls, stack := .ref T.heap.size :: rest, locked := none }) _
  jvm_step X₁.here [X₁.here.top, hexec, d3', Value.category]
  exact X₁.ldcStringW hexec (own := own) (text := text) (index := is) (a := sa) hown' hstr'.1 hstr'.2
    (g := { method := m, pc := pc + 4, locals := ls, stack := .ref T.heap.size :: .ref T.heap.size :: rest, locked := none }) rfl d4' _ hsteps
end Ends
section Bodies
variable {l : Launch}
theorem vx_ofW {y : MethodName} {ws ws' : List Cond} {rm : Room} {Pc : Array Value → State → Prop} {Qc : Array Value → State → Outcome → State → Prop} {XC : String → State → State → Prop} {mc ms : Nat} {free : Addr → Prop} {cc : ByteArray} {maxL : Nat} {ret : Option FieldType}
    (hy : plainName y.cls = true) (hw : ws = Cond.code y cc maxL ret :: ws')
    (body : ∀ p e s m args below meth c s₁, BodyLoose p l y (headSpec ws rm) cc maxL ret e s m args below meth c s₁ → c.maxLocals = maxL → (∀ x ∈ c.exceptionTable.toList, False) → Pc args s →
      W p l e (headSpec ws rm).room s m args below meth c s.heap [] 0 0 (vx_MQ below Qc XC args s mc ms free) (entryFrame m args maxL)) : vx_Met l y ws rm Pc Qc XC mc ms free := by
  refine MetFree.of_bodyS (code := cc) (maxLocals := maxL) (ret := ret) hy ?_ ?_
  · intro args s m h hn
    obtain ⟨meth, c, h1, h2, h3, h4, h5, h6, -, -⟩ := Cond.code_spec hn (atoms_spec (ws := ws) h _ (by rw [hw]; exact List.mem_cons_self))
    exact ⟨meth, c, h1, h2, h3, h4, h5, h6⟩
  · intro p e s m args below meth c s₁ B hml hP _
    have hh0 : s₁.heap = s.heap := by rw [B.state]; rfl
    have ht : ∀ x ∈ c.exceptionTable.toList, False := by
      obtain ⟨meth9, c9, h1, h2, -, -, -, -, h7, -⟩ := Cond.code_spec B.named (atoms_spec (ws := ws) B.pre _ (by rw [hw]; exact List.mem_cons_self))
      cases Option.some.inj (h1.symm.trans B.method)
      cases Option.some.inj (h2.symm.trans (Stand.of_body B).code)
      intro x hx
      rw [Array.isEmpty_iff.mp h7] at hx
      cases hx
    obtain ⟨t, a1, o, b1, b2, b3⟩ := body p e s m args below meth c s₁ B hml ht hP s₁ hh0 (Stand.of_body B)
    exact ⟨t, o, a1, b1, b2, b3⟩
/-- the table of a body with handlers -/
theorem vx_table {p : Program} {x y : MethodName} {S : Spec} {cc bytes : ByteArray} {maxL maxL' : Nat} {ret ret' : Option FieldType} {e : Env} {s s₁ : State} {m : MethodId} {args : Array Value} {below : List Frame} {meth : Method} {c : Code} {hh : List (Nat × Nat × Nat × Nat)}
    (B : BodyLoose p l y S cc maxL ret e s m args below meth c s₁) (h : (Cond.codeWith y bytes maxL' ret' hh).before args s = true) : c.exceptionTable.toList = tableOf hh := by
  obtain ⟨m9, meth9, c9, hn9, h1, h2, -, -, h6, -⟩ := Cond.codeWith_spec h
  cases Option.some.inj (hn9.symm.trans B.named)
  cases Option.some.inj (h1.symm.trans B.method)
  cases Option.some.inj (h2.symm.trans (Stand.of_body B).code)
  rw [← h6, table_eq]
end Bodies
end VXA
/-! ===== END ===== -/
/-! ===== BEGIN a static call of a method with an exception table ===== -/
section VXS
variable {p : Program} {l : Launch} {e : Env} {R : Room} {s : State} {m : MethodId} {args : Array Value} {below : List Frame} {meth : Method} {c : Code} {T : State} {H : Heap} {locs : List Loc} {cells slots : Nat}
abbrev vx_CSW (R : Room) (s : State) (args : Array Value) (own : String) (index : Nat) (y : MethodName) (bytes : ByteArray) (maxL : Nat) (ret : Option FieldType) (hh : List (Nat × Nat × Nat × Nat)) (ws : List Cond) (rm : Room) (mc ms n : Nat) : Prop :=
  (rm.cells = mc ∧ rm.slots = ms ∧ rm.frames + 1 ≤ R.frames ∧ 8 + (maxL + 11) + rm.locals ≤ R.locals ∧ (∀ w ∈ ws, ∀ (a' : Array Value) (U : State), s.WarmedH U.vm → w.before a' U = true) ∧ Cond.codeWith y bytes maxL ret hh ∈ ws) ∧
  (Cond.codeWith y bytes maxL ret hh).before args s = true ∧ (Cond.initialized y.cls).before args s = true ∧ (y.cls ≠ "java/lang/invoke/MethodHandle" ∧ y.cls ≠ "java/lang/invoke/VarHandle") ∧
  (∀ sig, parseMethodDescriptor y.desc = some sig → n = sig.parameters.length) ∧ (Cond.methodLink own index y).before args s = true ∧ (Cond.static y).before args s = true
theorem vx_cwSW {own : String} {index maxL mc ms : Nat} {y : MethodName} {bytes : ByteArray} {ret : Option FieldType} {hh : List (Nat × Nat × Nat × Nat)} {Ts ws ws' : List Cond} {rm : Room} (n : Nat) (ht : ∀ w ∈ Ts, w.before args s = true) (hT : GoodIn Ts (va_wsS own index y ws)) (hw : ws = Cond.codeWith y bytes maxL ret hh :: ws') (hrc : rm.cells = mc) (hrs : rm.slots = ms)
    (hd : y.cls ≠ "java/lang/invoke/MethodHandle" ∧ y.cls ≠ "java/lang/invoke/VarHandle" ∧ (parseMethodDescriptor y.desc).map (fun d => d.parameters.length) = some n) (hR : rm.frames + 1 ≤ R.frames ∧ 8 + (maxL + 11) + rm.locals ≤ R.locals) :
    vx_CSW R s args own index y bytes maxL ret hh ws rm mc ms n := by
  have ok : ∀ w ∈ va_wsS own index y ws, w.before args s = true := fun w h => ht w (hT w h).1
  have hG : GoodIn Ts ws := fun w h => hT w (by unfold va_wsS; exact List.mem_append_right _ h)
  have hc : Cond.codeWith y bytes maxL ret hh ∈ ws := by rw [hw]; exact List.mem_cons_self
  refine ⟨⟨hrc, hrs, hR.1, hR.2, pay_in ht hG, hc⟩, ht _ (hG _ hc).1, ok _ (by simp [va_wsS]), ⟨hd.1, hd.2.1⟩, fun sig h => ?_, ok _ (by simp [va_wsS]), ok _ (by simp [va_wsS])⟩
  have h2 := hd.2.2
  rw [h] at h2
  exact (Option.some.inj h2).symm
theorem vx_callSW (X : Stand p l e R s m args below meth c T locs cells slots) (hexec : p.tables.exec = Jvm.exec) {own : String} {index : Nat} {y : MethodName} {bytes : ByteArray} {maxL : Nat} {ret : Option FieldType} {hh : List (Nat × Nat × Nat × Nat)}
    (hown : s.vm.findClass own = some m.cls) (hlink : (Cond.methodLink own index y).before args s = true) (hstat : (Cond.static y).before args s = true) (hinit : (Cond.initialized y.cls).before args s = true)
    (hcode : (Cond.codeWith y bytes maxL ret hh).before args s = true) (hy : y.cls ≠ "java/lang/invoke/MethodHandle" ∧ y.cls ≠ "java/lang/invoke/VarHandle")
    {W9 : Nat} {Pre : Pt → Array Value → Prop} {Post : Pt → Array Value → Option Value → Pt → Prop} (hK : Back l R p e below s args y 3 W9 Pre Post)
    {g : JFrame} (hg : g.method = m) (hsize : g.locals.size = c.maxLocals) {argsL rest : List Value} (hlen : ∀ sig, parseMethodDescriptor y.desc = some sig → argsL.length = sig.parameters.length)
    (hstack : g.stack = argsL.reverse ++ rest) (hW : 2 * g.monitorRoom + (rest.map fun v => v.category).sum ≤ W9) (hdg : decode c.code g.pc = .ok (.invokestatic index, 3))
    (hpre : ∀ vm₁, s.WarmedH vm₁ → Pre ⟨T.setVm vm₁, locs, cells, slots⟩ argsL.toArray) :
    ∃ (v : Option Value) (vm₁ : Vm) (B : Pt), s.WarmedH vm₁ ∧ Stand p l e R s m args below meth c B.U B.locs B.cells B.slots ∧ Post ⟨T.setVm vm₁, locs, cells, slots⟩ argsL.toArray v B ∧
      ∀ target, Steps p.tables e below (B.U.setTop { g with pc := g.pc + 3, stack := v.toList ++ rest }) target → Steps p.tables e below (T.setTop g) target := by
  obtain ⟨mk, methM, cM, hnamed, hmethM, -, -, -, -, -, -, hsigM⟩ := Cond.codeWith_spec hcode
  have hstatic : methM.isStatic = true := Cond.static_spec hnamed hmethM hstat
  obtain ⟨kP, hkP, -⟩ := className_of_methodNamed hnamed
  have hinitP : kP.init = .initialized := Cond.initialized_spec (findClass_of_methodNamed hnamed) hkP hinit
  obtain ⟨vm₁, X₁, hstep₁⟩ := X.invokestatic hexec hown hlink hnamed hmethM hstatic hkP hinitP hy (g := g) hg (argsL := argsL) (rest := rest) (hlen _ hsigM) hstack hdg
  obtain ⟨v, B, X', hpost, hsteps⟩ := hK m meth c ⟨T.setVm vm₁, locs, cells, slots⟩ { g with stack := rest } (.invokestatic index) mk argsL.toArray X₁ hg hsize hdg hW (X₁.named hnamed) (hpre vm₁ X₁.warmed)
  exact ⟨v, vm₁, B, X₁.warmed, X', hpost, fun target h => hstep₁ _ fun acts => by rw [doInvoke_state]; exact hsteps.trans h⟩
theorem vx_runSW {y : MethodName} {bytes cc : ByteArray} {maxL nL mc ms n index : Nat} {ret : Option FieldType} {hh : List (Nat × Nat × Nat × Nat)} {ws : List Cond} {rm : Room} {Pc : Array Value → State → Prop} {Qc : Array Value → State → Outcome → State → Prop} {free : Addr → Prop} {Ts : List Cond} {own : String} {As rest : List Value} {g : JFrame}
    (S : CallFix p m c cc nL s args Ts own) (hM : Met l y ws rm Pc Qc mc ms free) (cw : vx_CSW R s args own index y bytes maxL ret hh ws rm mc ms n) (hp : PreS s H Pc As)
    (hg : g.method = m) (hn : As.length = n) (hsize : g.locals.size = nL) (hstack : g.stack = As.reverse ++ rest) (hW : 2 * g.monitorRoom + (rest.map fun v => v.category).sum ≤ 8) (hdg : decode cc g.pc = .ok (.invokestatic index, 3)) (hf : cells + mc ≤ R.cells ∧ slots + ms ≤ R.slots) :
    va_Run p l e R s m args below meth c H locs cells slots mc ms g rest (Qc As.toArray) (free) := by
  obtain ⟨⟨hrc, hrs, hfr, hlo, hws, hcw⟩, hcode, hini, hy, hlen, hl, hstt⟩ := cw
  have hK : Back l R p e below s args y 3 8 (PreOf R mc ms Pc) (PostOf Qc mc ms free) := va_backW (hh := hh) (bytes := bytes) (maxL := maxL) (ret := ret) hM hp.1 hrc hrs hfr hlo hws hcw (fun a' U hW => word_at hW (Or.inl (by first | rfl | simp [Cond.onTables, Cond.keeps, Cond.steady])) hini)
  obtain ⟨hx, hb, hml, ho, -⟩ := S
  intro T hT X
  obtain ⟨v, vm₁, ⟨U', l2, c2, s2⟩, hW₁, X', ⟨g', mk, t, L, e1, e2, hq, h1, hL, h2, h3⟩, st⟩ := vx_callSW X hx (hh := hh) (bytes := bytes) (maxL := maxL) (ret := ret) ho hl hstt hini hcode hy hK hg (hsize.trans hml.symm) (argsL := As) (rest := rest) (fun sig h => hn.trans (hlen sig h)) hstack hW (by rw [hb]; exact hdg)
    (fun vm₁ hW₁ => ⟨hf.1, hf.2, hp.2 (T.setVm vm₁) hT hW₁⟩)
  dsimp only [Pt.U, Pt.locs, Pt.cells, Pt.slots] at X' e1 e2 h1 h2 h3 st
  subst h1; subst h2; subst h3
  exact ⟨v, (T.setVm vm₁).calling g' mk As.toArray, t, U', L, hT, X', hL, e1, e2, hq, st⟩
/-- not caught here, past rows that name other classes: it goes on to the caller -/
theorem vx_outP {p : Program} {l : Launch} {e : Env} {R : Room} {s : State} {m : MethodId} {args : Array Value} {below : List Frame} {meth : Method} {c : Code} {H : Heap} {locs : List Loc} {cells slots : Nat} {free : Addr → Prop} {ls : Array Slot} {rest : List Value} {Qc : Array Value → State → Outcome → State → Prop} {XC : String → State → State → Prop}
    {pc : Nat} {own E : String} {ce : Cell} {q : Addr} {mc ms : Nat} (hown : s.vm.findClass own = some m.cls) (hlocks : meth.locks = false)
    (hpass : ∀ z ∈ c.exceptionTable.toList, covers z pc = false ∨ (z.catchType ≠ 0 ∧ ∃ nm : String, (Cond.classLink own z.catchType nm).before args s = true ∧ va_Nc E nm s)) (hcell : H[q]? = some ce) (hv : ce.vm = .none) (hcl : s.vm.findClass E = some ce.cls)
    (hx : ∀ t : State, t.heap = H → s.vm.Alike t.vm → XC E s t) (hf : ∀ z ∈ locs, free z.base) (hc : cells ≤ mc) (hs : slots ≤ ms) :
    vx_W p l e R s m args below meth c H locs cells slots (vx_MQ below Qc XC args s mc ms free) (F0 m pc ls rest) q := by
  intro T hT X
  have hpl : e.platform.magicAccessors = ({} : Platform).magicAccessors := by rw [X.admits.platform]
  obtain ⟨vm', hW', X', st⟩ := X.outThrough hlocks q (g := F0 m pc ls rest) rfl rfl rfl (cell := ce) (by rw [hT]; exact hcell) (by rw [hv]; rfl)
    (by obtain ⟨k9, h9, -⟩ := Vm.findClass_spec hcl; exact ⟨k9, h9⟩) (fun z hz => by
      rcases hpass z hz with h | ⟨hz0, nm, hl1, hn1⟩
      · exact Or.inl h
      · obtain ⟨c6, hc6, hcl6⟩ := Cond.classLink_spec hown hl1 e.platform hpl
        obtain ⟨a8, b8, h1, h2, h3⟩ := hn1
        cases Option.some.inj (h1.symm.trans hcl)
        cases Option.some.inj (h2.symm.trans hc6)
        exact Or.inr ⟨hz0, _, hcl6, h3⟩)
  obtain ⟨g₀, hfr⟩ := X'.frames_eq
  have hcell9 : ((T.setVm vm').setFrames (.throwing q :: below)).heap[q]? = some ce := by
    show T.heap[q]? = some ce
    rw [hT]; exact hcell
  have hend : Ended ((T.setVm vm').setFrames (.throwing q :: below)) below (.threw q) := State.frames_setFrames _ (State.cur_lt_of_frames hfr)
  refine ⟨(T.setVm vm').setFrames (.throwing q :: below), ?_, .threw q, X'.here.running, hend, Or.inr ⟨q, rfl, E, ce, locs, hx _ hT (X'.ends _).1.alike, hcell9, hv, hcl, (X'.ends _).1, (X'.ends _).2.mono hc hs, hf⟩⟩
  rw [X.pushThrowing_eq]
  exact st
/-- a thing of a world lies in the heap -/
theorem vx_lt {D : va_G} {cl : List vw_C} {ws : va_W} {H1 : Heap} (h : va_P D cl ws H1) {k : Nat} {q : Nat × va_E} (hk : ws[k]? = some q) : q.1 < H1.size := (h k q hk).lt
end VXS
/-! ===== END ===== -/
/-! ===== BEGIN methods with a table of their own: called by a name, returning or throwing ===== -/
section VXH
/-! vx_backW, vx_callVX, vx_callSX, vx_callVW, vx_runVW, vx_runVX, vx_runSX, vx_ofWH follow the same proofs as their sisters above (Free/Laws.lean, Shelf42/LK1.lean); vx_outP calls Shelf42/NT130.lean (outThrough). -/
section
variable {l : Launch} {R : Room} {p : Program} {e : Env} {below : List Frame} {s : State} {sargs : Array Value} {y : MethodName} {len W9 : Nat}
theorem vx_backW {ws : List Cond} {rm : Room} {Pc : Array Value → State → Prop} {Qc : Array Value → State → Outcome → State → Prop} {XC : String → State → State → Prop} {mc ms : Nat} {free : Addr → Prop} {bytes : ByteArray} {maxL : Nat} {ret : Option FieldType} {hh : List (Nat × Nat × Nat × Nat)}
    (hM : vx_Met l y ws rm Pc Qc XC mc ms free) (hblind : FrameBlind Pc) (hrc : rm.cells = mc) (hrs : rm.slots = ms)
    (hframes : rm.frames + 1 ≤ R.frames) (hlocals : W9 + (maxL + 11) + rm.locals ≤ R.locals)
    (hws : ∀ w ∈ ws, ∀ a' U, s.WarmedH U.vm → w.before a' U = true) (hcode : Cond.codeWith y bytes maxL ret hh ∈ ws) (hinit : ∀ a' U, s.WarmedH U.vm → (Cond.initialized y.cls).before a' U = true) :
    vx_Back l R p e below s sargs y len W9 (PreOf R mc ms Pc) (PostOf Qc mc ms free) (vx_Post XC mc ms free) := by
  intro m meth c A g ig mk a X hg hsize hdg hW hn hp
  have h1 : (headSpec ws rm).pre.before a A.U = true := atoms_intro fun w hw => hws w hw _ _ X.warmed
  have h2 : (Cond.codeWith y bytes maxL ret hh).before a A.U = true := hws _ hcode _ _ X.warmed
  have h3 : (Cond.initialized y.cls).before a A.U = true := hinit _ _ X.warmed
  have h4 : A.cells + (headSpec ws rm).room.cells ≤ R.cells := by rw [show (headSpec ws rm).room.cells = mc from hrc]; exact hp.1
  have h5 : A.slots + (headSpec ws rm).room.slots ≤ R.slots := by rw [show (headSpec ws rm).room.slots = ms from hrs]; exact hp.2.1
  have hPc : Pc a (A.U.calling g mk a) := hblind _ _ _ _ hp.2.2
  obtain ⟨U, Ls, c0, s0⟩ := A
  dsimp only [Pt.U, Pt.locs, Pt.cells, Pt.slots] at h1 h2 h3 h4 h5 X hn hPc ⊢
  obtain ⟨m9, methY, cY, hn9, hmY, hcY, -, hlY, -⟩ := Cond.codeWith_spec h2
  cases Option.some.inj (hn9.symm.trans hn)
  obtain ⟨kY, hkY, -⟩ := className_of_methodNamed hn
  have hinitY : kY.init = .initialized := Cond.initialized_spec (findClass_of_methodNamed hn) hkY h3
  have h : At U g.method c below := by rw [hg]; exact X.here
  have hlocals9 : W9 + (maxL + 11) + (headSpec ws rm).room.locals ≤ R.locals := hlocals
  have happ : (headSpec ws rm).appliesLoose y e.platform (U.calling g mk a) = true :=
    Spec.appliesLoose_calling (g := g) h hdg hn hkY hinitY
      (X.room_calling (g := g) (R' := (headSpec ws rm).room) hsize hmY hcY hframes (by rw [hlY]; omega) h4 h5) h1
  obtain ⟨mid, hmid⟩ := h.above
  have hfr : (U.setTop g).frames = (.java g :: mid) ++ below := by rw [State.frames_setTop' g h.top, hmid]; rfl
  obtain ⟨o, s₂, hsteps, -, hend, hq⟩ := Steps.callFree hM p X.admits X.cas X.clock (acts := []) hfr happ hPc trivial
  have hq' : vx_Q Qc XC mc ms free a (U.calling g mk a) o s₂ := hq
  rw [State.frames_setTop' g h.top] at hend
  obtain ⟨g₀, hg0⟩ := Option.isSome_iff_exists.mp h.top
  obtain ⟨r, hr⟩ := State.topJava?_eq_some.mp hg0
  have hr' : (({ U with heap := s₂.heap, slotsUsed := s₂.slotsUsed } : State).setVm s₂.vm).frames = .java g₀ :: r := hr
  rcases hq' with ⟨hqc, L, hfe, hL⟩ | ⟨q, rfl, E, ce, L, hx, hce, hcv, hcl, hW₂, hsm, hL⟩
  · obtain ⟨⟨v, rfl⟩, hW₂, e2, q2, q3, q4, q5, q6⟩ := id hfe
    have e3 : s₂ = ({ (U.calling g mk a).setFrames s₂.frames with heap := s₂.heap, slotsUsed := s₂.slotsUsed } : State).setVm s₂.vm := by
      have : s₂ = ({ s₂ with vm := (U.calling g mk a).vm } : State).setVm s₂.vm := rfl
      rw [e2] at this
      exact this
    obtain ⟨c₂, i₂, len₂, hc₂, hd₂, hf₂⟩ := hend
    have hW' : U.WarmedH s₂.vm := hW₂
    have hcc : c₂ = c := by
      have h1 : s₂.code? g.method = U.code? g.method := by
        rw [State.code?_eq, State.code?_eq, hW'.alike.method?]
      exact Option.some.inj (hc₂.symm.trans (h1.trans h.code))
    subst hcc
    have hlen : len₂ = len := by rw [hdg] at hd₂; cases hd₂; rfl
    subst hlen
    have hs₂ : s₂ = (({ U with heap := s₂.heap, slotsUsed := s₂.slotsUsed } : State).setVm s₂.vm).setTop { g with pc := g.pc + len₂, stack := v.toList ++ g.stack } := by
      refine e3.trans ?_
      rw [hf₂, State.calling_eq h.top, State.setFrames_setFrames, State.setTop_of_frames _ hr', hr]
      rfl
    have hsame : U.sameButNew ({ U with heap := s₂.heap, slotsUsed := s₂.slotsUsed } : State) L mc ms := by
      refine ⟨?_, q2, q3, q4, q5, q6⟩
      obtain ⟨t, ht, -⟩ := State.frames_cons hr
      show ({ U with heap := s₂.heap, slotsUsed := s₂.slotsUsed } : State) = { U.setFrames U.frames with heap := s₂.heap, slotsUsed := s₂.slotsUsed }
      rw [State.setFrames_self ht]
    subst hg
    refine Or.inl ⟨v, ⟨(({ U with heap := s₂.heap, slotsUsed := s₂.slotsUsed } : State).setVm s₂.vm), Ls ++ L, c0 + mc, s0 + ms⟩,
      ⟨X.admits, X.cas, X.clock, X.frames, X.room, X.hears, X.method, X.code, (X.here.setHeapUsed s₂.heap s₂.slotsUsed).setVm hW'.alike, X.tail, State.WarmedH.trans X.warmed hW', X.limits, X.bytes, X.same.trans (hsame.setVm s.vm)⟩,
      ⟨g, mk, s₂, L, rfl, rfl, hqc, rfl, hL, rfl, rfl⟩, ?_⟩
    show Steps p.tables e below _ ((({ U with heap := s₂.heap, slotsUsed := s₂.slotsUsed } : State).setVm s₂.vm).setTop { g with pc := g.pc + len₂, stack := v.toList ++ g.stack })
    rw [← hs₂]
    exact hsteps
  · obtain ⟨e2, q2, q3, q4, q5, q6⟩ := id hsm
    have e3 : s₂ = ({ (U.calling g mk a).setFrames s₂.frames with heap := s₂.heap, slotsUsed := s₂.slotsUsed } : State).setVm s₂.vm := by
      have : s₂ = ({ s₂ with vm := (U.calling g mk a).vm } : State).setVm s₂.vm := rfl
      rw [e2] at this
      exact this
    have hf₂ : s₂.frames = .throwing q :: .java g :: U.frames.tail := hend
    have hW' : U.WarmedH s₂.vm := hW₂
    have hs₂ : s₂ = ((({ U with heap := s₂.heap, slotsUsed := s₂.slotsUsed } : State).setVm s₂.vm).setTop g).pushFrame (.throwing q) := by
      refine e3.trans ?_
      rw [hf₂, State.calling_eq h.top, State.setFrames_setFrames, State.pushFrame, State.frames_setTop _ hr', State.setTop_of_frames _ hr', State.setFrames_setFrames, hr]
      rfl
    have hsame : U.sameButNew ({ U with heap := s₂.heap, slotsUsed := s₂.slotsUsed } : State) L mc ms := by
      refine ⟨?_, q2, q3, q4, q5, q6⟩
      obtain ⟨t, ht, -⟩ := State.frames_cons hr
      show ({ U with heap := s₂.heap, slotsUsed := s₂.slotsUsed } : State) = { U.setFrames U.frames with heap := s₂.heap, slotsUsed := s₂.slotsUsed }
      rw [State.setFrames_self ht]
    subst hg
    refine Or.inr ⟨q, ⟨(({ U with heap := s₂.heap, slotsUsed := s₂.slotsUsed } : State).setVm s₂.vm), Ls ++ L, c0 + mc, s0 + ms⟩,
      ⟨X.admits, X.cas, X.clock, X.frames, X.room, X.hears, X.method, X.code, (X.here.setHeapUsed s₂.heap s₂.slotsUsed).setVm hW'.alike, X.tail, State.WarmedH.trans X.warmed hW', X.limits, X.bytes, X.same.trans (hsame.setVm s.vm)⟩,
      ⟨g, mk, s₂, L, E, ce, rfl, rfl, hx, hce, hcv, hcl, rfl, hL, rfl, rfl⟩, ?_⟩
    show Steps p.tables e below _ (((({ U with heap := s₂.heap, slotsUsed := s₂.slotsUsed } : State).setVm s₂.vm).setTop g).pushFrame (.throwing q))
    rw [← hs₂]
    exact hsteps
end
variable {p : Program} {l : Launch} {e : Env} {R : Room} {s : State} {m : MethodId} {args : Array Value} {below : List Frame} {meth : Method} {c : Code} {T : State} {H : Heap} {locs : List Loc} {cells slots : Nat}
theorem vx_callVX (X : Stand p l e R s m args below meth c T locs cells slots) (hexec : p.tables.exec = Jvm.exec) {own C : String} {index : Nat} {y : MethodName} {bytes : ByteArray} {maxL : Nat} {ret : Option FieldType} {hh : List (Nat × Nat × Nat × Nat)}
    (hown : s.vm.findClass own = some m.cls) (hlink : (Cond.methodLink own index y).before args s = true) (hinst : (Cond.instanceMethod y).before args s = true) (hsel : (Cond.selects C y y).before args s = true)
    (hcode : (Cond.codeWith y bytes maxL ret hh).before args s = true) (hy : y.cls ≠ "java/lang/invoke/MethodHandle" ∧ y.cls ≠ "java/lang/invoke/VarHandle")
    {W9 : Nat} {Pre : Pt → Array Value → Prop} {Post : Pt → Array Value → Option Value → Pt → Prop} {PostX : Pt → Array Value → Addr → Pt → Prop} (hK : vx_Back l R p e below s args y 3 W9 Pre Post PostX)
    {b : Addr} {cellB : Cell} (hcell : T.heap[b]? = some cellB) (hobj : cellB.vm.isStatics = false) (hcls : s.vm.findClass C = some cellB.cls)
    {g : JFrame} (hg : g.method = m) (hsize : g.locals.size = c.maxLocals) {argsL rest : List Value} (hlen : ∀ sig, parseMethodDescriptor y.desc = some sig → argsL.length = sig.parameters.length)
    (hstack : g.stack = argsL.reverse ++ .ref b :: rest) (hW : 2 * g.monitorRoom + (rest.map fun v => v.category).sum ≤ W9) (hdg : decode c.code g.pc = .ok (.invokevirtual index, 3))
    (hpre : ∀ vm₁, s.WarmedH vm₁ → Pre ⟨T.setVm vm₁, locs, cells, slots⟩ (Value.ref b :: argsL).toArray) :
    (∃ (v : Option Value) (vm₁ : Vm) (B : Pt), s.WarmedH vm₁ ∧ Stand p l e R s m args below meth c B.U B.locs B.cells B.slots ∧ Post ⟨T.setVm vm₁, locs, cells, slots⟩ (Value.ref b :: argsL).toArray v B ∧
      ∀ target, Steps p.tables e below (B.U.setTop { g with pc := g.pc + 3, stack := v.toList ++ rest }) target → Steps p.tables e below (T.setTop g) target) ∨
    (∃ (q : Addr) (vm₁ : Vm) (B : Pt), s.WarmedH vm₁ ∧ Stand p l e R s m args below meth c B.U B.locs B.cells B.slots ∧ PostX ⟨T.setVm vm₁, locs, cells, slots⟩ (Value.ref b :: argsL).toArray q B ∧
      Steps p.tables e below (T.setTop g) ((B.U.setTop { g with stack := rest }).pushFrame (.throwing q))) := by
  obtain ⟨mk, methM, hnamed, hmethM, hstM, habM⟩ := Cond.instanceMethod_spec hinst
  obtain ⟨m8, methM', cM, hn8, hmethM', -, -, -, -, -, -, hsigM⟩ := Cond.codeWith_spec hcode
  cases Option.some.inj (hn8.symm.trans hnamed)
  cases hmethM.symm.trans hmethM'
  obtain ⟨c2, r2, m2, q1, q2, q3, q4, kP, hkP, hkPi⟩ := Cond.selects_spec hsel
  cases hcls.symm.trans q1
  cases (State.methodFound?_of_named hnamed hy).symm.trans q2
  cases hnamed.symm.trans q3
  have hselP : selectMethod e.platform s.vm cellB.cls mk = .method mk := by rw [Launch.admits_selectMethod X.admits]; exact q4
  obtain ⟨vm₁, X₁, hstep₁⟩ := X.invokevirtual hexec hown hlink hnamed hmethM hstM hkP hkPi hy (a := b) (cell := cellB) hcell
    (fun z h => by rw [h] at hobj; cases hobj) hselP hmethM habM hkP hkPi (g := g) hg (argsL := argsL) (rest := rest) (hlen _ hsigM) hstack hdg
  rcases hK m meth c ⟨T.setVm vm₁, locs, cells, slots⟩ { g with stack := rest } (.invokevirtual index) mk (Value.ref b :: argsL).toArray X₁ hg hsize hdg hW (X₁.named hnamed) (hpre vm₁ X₁.warmed) with ⟨v, B, X', hpost, hsteps⟩ | ⟨q, B, X', hpost, hsteps⟩
  · exact Or.inl ⟨v, vm₁, B, X₁.warmed, X', hpost, fun target h => hstep₁ _ fun acts => by rw [doInvoke_state]; exact hsteps.trans h⟩
  · exact Or.inr ⟨q, vm₁, B, X₁.warmed, X', hpost, hstep₁ _ fun acts => by rw [doInvoke_state]; exact hsteps⟩
theorem vx_callSX (X : Stand p l e R s m args below meth c T locs cells slots) (hexec : p.tables.exec = Jvm.exec) {own : String} {index : Nat} {y : MethodName} {bytes : ByteArray} {maxL : Nat} {ret : Option FieldType} {hh : List (Nat × Nat × Nat × Nat)}
    (hown : s.vm.findClass own = some m.cls) (hlink : (Cond.methodLink own index y).before args s = true) (hstat : (Cond.static y).before args s = true) (hinit : (Cond.initialized y.cls).before args s = true)
    (hcode : (Cond.codeWith y bytes maxL ret hh).before args s = true) (hy : y.cls ≠ "java/lang/invoke/MethodHandle" ∧ y.cls ≠ "java/lang/invoke/VarHandle")
    {W9 : Nat} {Pre : Pt → Array Value → Prop} {Post : Pt → Array Value → Option Value → Pt → Prop} {PostX : Pt → Array Value → Addr → Pt → Prop} (hK : vx_Back l R p e below s args y 3 W9 Pre Post PostX)
    {g : JFrame} (hg : g.method = m) (hsize : g.locals.size = c.maxLocals) {argsL rest : List Value} (hlen : ∀ sig, parseMethodDescriptor y.desc = some sig → argsL.length = sig.parameters.length)
    (hstack : g.stack = argsL.reverse ++ rest) (hW : 2 * g.monitorRoom + (rest.map fun v => v.category).sum ≤ W9) (hdg : decode c.code g.pc = .ok (.invokestatic index, 3))
    (hpre : ∀ vm₁, s.WarmedH vm₁ → Pre ⟨T.setVm vm₁, locs, cells, slots⟩ argsL.toArray) :
    (∃ (v : Option Value) (vm₁ : Vm) (B : Pt), s.WarmedH vm₁ ∧ Stand p l e R s m args below meth c B.U B.locs B.cells B.slots ∧ Post ⟨T.setVm vm₁, locs, cells, slots⟩ argsL.toArray v B ∧
      ∀ target, Steps p.tables e below (B.U.setTop { g with pc := g.pc + 3, stack := v.toList ++ rest }) target → Steps p.tables e below (T.setTop g) target) ∨
    (∃ (q : Addr) (vm₁ : Vm) (B : Pt), s.WarmedH vm₁ ∧ Stand p l e R s m args below meth c B.U B.locs B.cells B.slots ∧ PostX ⟨T.setVm vm₁, locs, cells, slots⟩ argsL.toArray q B ∧
      Steps p.tables e below (T.setTop g) ((B.U.setTop { g with stack := rest }).pushFrame (.throwing q))) := by
  obtain ⟨mk, methM, cM, hnamed, hmethM, -, -, -, -, -, -, hsigM⟩ := Cond.codeWith_spec hcode
  have hstatic : methM.isStatic = true := Cond.static_spec hnamed hmethM hstat
  obtain ⟨kP, hkP, -⟩ := className_of_methodNamed hnamed
  have hinitP : kP.init = .initialized := Cond.initialized_spec (findClass_of_methodNamed hnamed) hkP hinit
  obtain ⟨vm₁, X₁, hstep₁⟩ := X.invokestatic hexec hown hlink hnamed hmethM hstatic hkP hinitP hy (g := g) hg (argsL := argsL) (rest := rest) (hlen _ hsigM) hstack hdg
  rcases hK m meth c ⟨T.setVm vm₁, locs, cells, slots⟩ { g with stack := rest } (.invokestatic index) mk argsL.toArray X₁ hg hsize hdg hW (X₁.named hnamed) (hpre vm₁ X₁.warmed) with ⟨v, B, X', hpost, hsteps⟩ | ⟨q, B, X', hpost, hsteps⟩
  · exact Or.inl ⟨v, vm₁, B, X₁.warmed, X', hpost, fun target h => hstep₁ _ fun acts => by rw [doInvoke_state]; exact hsteps.trans h⟩
  · exact Or.inr ⟨q, vm₁, B, X₁.warmed, X', hpost, hstep₁ _ fun acts => by rw [doInvoke_state]; exact hsteps⟩
theorem vx_callVW (X : Stand p l e R s m args below meth c T locs cells slots) (hexec : p.tables.exec = Jvm.exec) {own C : String} {index : Nat} {y : MethodName} {bytes : ByteArray} {maxL : Nat} {ret : Option FieldType} {hh : List (Nat × Nat × Nat × Nat)}
    (hown : s.vm.findClass own = some m.cls) (hlink : (Cond.methodLink own index y).before args s = true) (hinst : (Cond.instanceMethod y).before args s = true) (hsel : (Cond.selects C y y).before args s = true)
    (hcode : (Cond.codeWith y bytes maxL ret hh).before args s = true) (hy : y.cls ≠ "java/lang/invoke/MethodHandle" ∧ y.cls ≠ "java/lang/invoke/VarHandle")
    {W9 : Nat} {Pre : Pt → Array Value → Prop} {Post : Pt → Array Value → Option Value → Pt → Prop} (hK : Back l R p e below s args y 3 W9 Pre Post)
    {b : Addr} {cellB : Cell} (hcell : T.heap[b]? = some cellB) (hobj : cellB.vm.isStatics = false) (hcls : s.vm.findClass C = some cellB.cls)
    {g : JFrame} (hg : g.method = m) (hsize : g.locals.size = c.maxLocals) {argsL rest : List Value} (hlen : ∀ sig, parseMethodDescriptor y.desc = some sig → argsL.length = sig.parameters.length)
    (hstack : g.stack = argsL.reverse ++ .ref b :: rest) (hW : 2 * g.monitorRoom + (rest.map fun v => v.category).sum ≤ W9) (hdg : decode c.code g.pc = .ok (.invokevirtual index, 3))
    (hpre : ∀ vm₁, s.WarmedH vm₁ → Pre ⟨T.setVm vm₁, locs, cells, slots⟩ (Value.ref b :: argsL).toArray) :
    ∃ (v : Option Value) (vm₁ : Vm) (B : Pt), s.WarmedH vm₁ ∧ Stand p l e R s m args below meth c B.U B.locs B.cells B.slots ∧ Post ⟨T.setVm vm₁, locs, cells, slots⟩ (Value.ref b :: argsL).toArray v B ∧
      ∀ target, Steps p.tables e below (B.U.setTop { g with pc := g.pc + 3, stack := v.toList ++ rest }) target → Steps p.tables e below (T.setTop g) target := by
  obtain ⟨mk, methM, hnamed, hmethM, hstM, habM⟩ := Cond.instanceMethod_spec hinst
  obtain ⟨m8, methM', cM, hn8, hmethM', -, -, -, -, -, -, hsigM⟩ := Cond.codeWith_spec hcode
  cases Option.some.inj (hn8.symm.trans hnamed)
  cases hmethM.symm.trans hmethM'
  obtain ⟨c2, r2, m2, q1, q2, q3, q4, kP, hkP, hkPi⟩ := Cond.selects_spec hsel
  cases hcls.symm.trans q1
  cases (State.methodFound?_of_named hnamed hy).symm.trans q2
  cases hnamed.symm.trans q3
  have hselP : selectMethod e.platform s.vm cellB.cls mk = .method mk := by rw [Launch.admits_selectMethod X.admits]; exact q4
  obtain ⟨vm₁, X₁, hstep₁⟩ := X.invokevirtual hexec hown hlink hnamed hmethM hstM hkP hkPi hy (a := b) (cell := cellB) hcell
    (fun z h => by rw [h] at hobj; cases hobj) hselP hmethM habM hkP hkPi (g := g) hg (argsL := argsL) (rest := rest) (hlen _ hsigM) hstack hdg
  obtain ⟨v, B, X', hpost, hsteps⟩ := hK m meth c ⟨T.setVm vm₁, locs, cells, slots⟩ { g with stack := rest } (.invokevirtual index) mk (Value.ref b :: argsL).toArray X₁ hg hsize hdg hW (X₁.named hnamed) (hpre vm₁ X₁.warmed)
  exact ⟨v, vm₁, B, X₁.warmed, X', hpost, fun target h => hstep₁ _ fun acts => by rw [doInvoke_state]; exact hsteps.trans h⟩
abbrev vx_CVW (R : Room) (s : State) (args : Array Value) (own C : String) (index : Nat) (y : MethodName) (bytes : ByteArray) (maxL : Nat) (ret : Option FieldType) (hh : List (Nat × Nat × Nat × Nat)) (ws : List Cond) (rm : Room) (mc ms n : Nat) : Prop :=
  (rm.cells = mc ∧ rm.slots = ms ∧ rm.frames + 1 ≤ R.frames ∧ 8 + (maxL + 11) + rm.locals ≤ R.locals ∧ (∀ w ∈ ws, ∀ (a' : Array Value) (U : State), s.WarmedH U.vm → w.before a' U = true) ∧ Cond.codeWith y bytes maxL ret hh ∈ ws) ∧
  (Cond.codeWith y bytes maxL ret hh).before args s = true ∧ (Cond.initialized y.cls).before args s = true ∧ (y.cls ≠ "java/lang/invoke/MethodHandle" ∧ y.cls ≠ "java/lang/invoke/VarHandle") ∧
  (∀ sig, parseMethodDescriptor y.desc = some sig → n = sig.parameters.length) ∧ (Cond.methodLink own index y).before args s = true ∧ (Cond.instanceMethod y).before args s = true ∧ (Cond.selects C y y).before args s = true
theorem vx_cwVW {own C : String} {index maxL mc ms : Nat} {y : MethodName} {bytes : ByteArray} {ret : Option FieldType} {hh : List (Nat × Nat × Nat × Nat)} {Ts ws ws' : List Cond} {rm : Room} (n : Nat) (ht : ∀ w ∈ Ts, w.before args s = true) (hT : GoodIn Ts (wsV own index C y ws)) (hw : ws = Cond.codeWith y bytes maxL ret hh :: ws') (hrc : rm.cells = mc) (hrs : rm.slots = ms)
    (hd : y.cls = C ∧ y.cls ≠ "java/lang/invoke/MethodHandle" ∧ y.cls ≠ "java/lang/invoke/VarHandle" ∧ (parseMethodDescriptor y.desc).map (fun d => d.parameters.length) = some n) (hR : rm.frames + 1 ≤ R.frames ∧ 8 + (maxL + 11) + rm.locals ≤ R.locals) :
    vx_CVW R s args own C index y bytes maxL ret hh ws rm mc ms n := by
  obtain ⟨hC, hd⟩ := hd
  subst hC
  have ok : ∀ w ∈ wsV own index y.cls y ws, w.before args s = true := fun w h => ht w (hT w h).1
  have hG : GoodIn Ts ws := fun w h => hT w (by unfold wsV; exact List.mem_append_right _ h)
  have hc : Cond.codeWith y bytes maxL ret hh ∈ ws := by rw [hw]; exact List.mem_cons_self
  refine ⟨⟨hrc, hrs, hR.1, hR.2, pay_in ht hG, hc⟩, ht _ (hG _ hc).1, ok _ (by simp [wsV]), ⟨hd.1, hd.2.1⟩, fun sig h => ?_, ok _ (by simp [wsV]), ok _ (by simp [wsV]), ok _ (by simp [wsV])⟩
  have h2 := hd.2.2
  rw [h] at h2
  exact (Option.some.inj h2).symm
theorem vx_runVW {y : MethodName} {bytes cc : ByteArray} {maxL nL mc ms n index : Nat} {ret : Option FieldType} {hh : List (Nat × Nat × Nat × Nat)} {ws : List Cond} {rm : Room} {Pc : Array Value → State → Prop} {Qc : Array Value → State → Outcome → State → Prop} {free : Addr → Prop} {Ts : List Cond} {own C : String} {b : Addr} {As rest : List Value} {g : JFrame}
    (S : CallFix p m c cc nL s args Ts own) (hM : Met l y ws rm Pc Qc mc ms free) (cw : vx_CVW R s args own C index y bytes maxL ret hh ws rm mc ms n) (hp : PreV s H C b Pc As)
    (hg : g.method = m) (hn : As.length = n) (hsize : g.locals.size = nL) (hstack : g.stack = As.reverse ++ .ref b :: rest) (hW : 2 * g.monitorRoom + (rest.map fun v => v.category).sum ≤ 8) (hdg : decode cc g.pc = .ok (.invokevirtual index, 3)) (hf : cells + mc ≤ R.cells ∧ slots + ms ≤ R.slots) :
    va_Run p l e R s m args below meth c H locs cells slots mc ms g rest (Qc (Value.ref b :: As).toArray) free := by
  obtain ⟨⟨hrc, hrs, hfr, hlo, hws, hcw⟩, hcode, hini, hy, hlen, hl, hin, hse⟩ := cw
  have hK : Back l R p e below s args y 3 8 (PreOf R mc ms Pc) (PostOf Qc mc ms free) := va_backW (hh := hh) (bytes := bytes) (maxL := maxL) (ret := ret) hM hp.1 hrc hrs hfr hlo hws hcw (fun a' U hW => word_at hW (Or.inl (by first | rfl | simp [Cond.onTables, Cond.keeps, Cond.steady])) hini)
  obtain ⟨hx, hb, hml, ho, -⟩ := S
  obtain ⟨-, ⟨cellB, hcB, hoB, hclB⟩, hPc⟩ := hp
  intro T hT X
  obtain ⟨v, vm₁, ⟨U', l2, c2, s2⟩, hW₁, X', ⟨g', mk, t, L, e1, e2, hq, h1, hL, h2, h3⟩, st⟩ := vx_callVW X hx (C := C) (hh := hh) (bytes := bytes) (maxL := maxL) (ret := ret) ho hl hin hse hcode hy hK (by rw [hT]; exact hcB) hoB hclB hg (hsize.trans hml.symm) (argsL := As) (rest := rest) (fun sig h => hn.trans (hlen sig h)) hstack hW (by rw [hb]; exact hdg)
    (fun vm₁ hW₁ => ⟨hf.1, hf.2, hPc (T.setVm vm₁) hT hW₁⟩)
  dsimp only [Pt.U, Pt.locs, Pt.cells, Pt.slots] at X' e1 e2 h1 h2 h3 st
  subst h1; subst h2; subst h3
  exact ⟨v, (T.setVm vm₁).calling g' mk (Value.ref b :: As).toArray, t, U', L, hT, X', hL, e1, e2, hq, st⟩
section
variable {y : MethodName} {bytes cc : ByteArray} {maxL nL mc ms n index : Nat} {ret : Option FieldType} {ws : List Cond} {rm : Room} {Pc : Array Value → State → Prop} {Qc : Array Value → State → Outcome → State → Prop} {XC : String → State → State → Prop} {free : Addr → Prop} {Ts : List Cond} {own C : String} {b : Addr} {As rest : List Value} {g : JFrame}
theorem vx_runVX {hh : List (Nat × Nat × Nat × Nat)} (S : CallFix p m c cc nL s args Ts own) (hM : vx_Met l y ws rm Pc Qc XC mc ms free) (cw : vx_CVW R s args own C index y bytes maxL ret hh ws rm mc ms n) (hp : PreV s H C b Pc As)
    (hg : g.method = m) (hn : As.length = n) (hsize : g.locals.size = nL) (hstack : g.stack = As.reverse ++ .ref b :: rest) (hW : 2 * g.monitorRoom + (rest.map fun v => v.category).sum ≤ 8) (hdg : decode cc g.pc = .ok (.invokevirtual index, 3)) (hf : cells + mc ≤ R.cells ∧ slots + ms ≤ R.slots) :
    vx_Run p l e R s m args below meth c H locs cells slots mc ms g rest (Qc (Value.ref b :: As).toArray) XC free := by
  obtain ⟨⟨hrc, hrs, hfr, hlo, hws, hcw⟩, hcode, hini, hy, hlen, hl, hin, hse⟩ := cw
  have hK : vx_Back l R p e below s args y 3 8 (PreOf R mc ms Pc) (PostOf Qc mc ms free) (vx_Post XC mc ms free) := vx_backW (hh := hh) (bytes := bytes) (maxL := maxL) (ret := ret) hM hp.1 hrc hrs hfr hlo hws hcw (fun a' U hW => word_at hW (Or.inl (by first | rfl | simp [Cond.onTables, Cond.keeps, Cond.steady])) hini)
  obtain ⟨hx, hb, hml, ho, -⟩ := S
  obtain ⟨-, ⟨cellB, hcB, hoB, hclB⟩, hPc⟩ := hp
  intro T hT X
  rcases vx_callVX X hx (C := C) (hh := hh) (bytes := bytes) (maxL := maxL) (ret := ret) ho hl hin hse hcode hy hK (by rw [hT]; exact hcB) hoB hclB hg (hsize.trans hml.symm) (argsL := As) (rest := rest) (fun sig h => hn.trans (hlen sig h)) hstack hW (by rw [hb]; exact hdg)
    (fun vm₁ hW₁ => ⟨hf.1, hf.2, hPc (T.setVm vm₁) hT hW₁⟩) with ⟨v, vm₁, ⟨U', l2, c2, s2⟩, hW₁, X', ⟨g', mk, t, L, e1, e2, hq, h1, hL, h2, h3⟩, st⟩ | ⟨q, vm₁, ⟨U', l2, c2, s2⟩, hW₁, X', ⟨g', mk, t, L, E, ce, e1, e2, hq, hce, hcv, hcl, h1, hL, h2, h3⟩, st⟩
  · dsimp only [Pt.U, Pt.locs, Pt.cells, Pt.slots] at X' e1 e2 h1 h2 h3 st
    subst h1; subst h2; subst h3
    exact Or.inl ⟨v, (T.setVm vm₁).calling g' mk (Value.ref b :: As).toArray, t, U', L, hT, X', hL, e1, e2, hq, st⟩
  · dsimp only [Pt.U, Pt.locs, Pt.cells, Pt.slots] at X' e1 e2 h1 h2 h3 st hcl
    subst h1; subst h2; subst h3
    exact Or.inr ⟨q, (T.setVm vm₁).calling g' mk (Value.ref b :: As).toArray, t, U', L, E, ce, hT, X', hL, e1, e2, hq, hce, hcv, vx_cls hW₁ hcl, st⟩
theorem vx_runSX {hh : List (Nat × Nat × Nat × Nat)} (S : CallFix p m c cc nL s args Ts own) (hM : vx_Met l y ws rm Pc Qc XC mc ms free) (cw : vx_CSW R s args own index y bytes maxL ret hh ws rm mc ms n) (hp : PreS s H Pc As)
    (hg : g.method = m) (hn : As.length = n) (hsize : g.locals.size = nL) (hstack : g.stack = As.reverse ++ rest) (hW : 2 * g.monitorRoom + (rest.map fun v => v.category).sum ≤ 8) (hdg : decode cc g.pc = .ok (.invokestatic index, 3)) (hf : cells + mc ≤ R.cells ∧ slots + ms ≤ R.slots) :
    vx_Run p l e R s m args below meth c H locs cells slots mc ms g rest (Qc As.toArray) XC free := by
  obtain ⟨⟨hrc, hrs, hfr, hlo, hws, hcw⟩, hcode, hini, hy, hlen, hl, hstt⟩ := cw
  have hK : vx_Back l R p e below s args y 3 8 (PreOf R mc ms Pc) (PostOf Qc mc ms free) (vx_Post XC mc ms free) := vx_backW (hh := hh) (bytes := bytes) (maxL := maxL) (ret := ret) hM hp.1 hrc hrs hfr hlo hws hcw (fun a' U hW => word_at hW (Or.inl (by first | rfl | simp [Cond.onTables, Cond.keeps, Cond.steady])) hini)
  obtain ⟨hx, hb, hml, ho, -⟩ := S
  intro T hT X
  rcases vx_callSX X hx (hh := hh) (bytes := bytes) (maxL := maxL) (ret := ret) ho hl hstt hini hcode hy hK hg (hsize.trans hml.symm) (argsL := As) (rest := rest) (fun sig h => hn.trans (hlen sig h)) hstack hW (by rw [hb]; exact hdg)
    (fun vm₁ hW₁ => ⟨hf.1, hf.2, hp.2 (T.setVm vm₁) hT hW₁⟩) with ⟨v, vm₁, ⟨U', l2, c2, s2⟩, hW₁, X', ⟨g', mk, t, L, e1, e2, hq, h1, hL, h2, h3⟩, st⟩ | ⟨q, vm₁, ⟨U', l2, c2, s2⟩, hW₁, X', ⟨g', mk, t, L, E, ce, e1, e2, hq, hce, hcv, hcl, h1, hL, h2, h3⟩, st⟩
  · dsimp only [Pt.U, Pt.locs, Pt.cells, Pt.slots] at X' e1 e2 h1 h2 h3 st
    subst h1; subst h2; subst h3
    exact Or.inl ⟨v, (T.setVm vm₁).calling g' mk As.toArray, t, U', L, hT, X', hL, e1, e2, hq, st⟩
  · dsimp only [Pt.U, Pt.locs, Pt.cells, Pt.slots] at X' e1 e2 h1 h2 h3 st hcl
    subst h1; subst h2; subst h3
    exact Or.inr ⟨q, (T.setVm vm₁).calling g' mk As.toArray, t, U', L, E, ce, hT, X', hL, e1, e2, hq, hce, hcv, vx_cls hW₁ hcl, st⟩
end
end VXH
theorem vx_ofWH {l : Launch} {y : MethodName} {ws ws' : List Cond} {rm : Room} {Pc : Array Value → State → Prop} {Qc : Array Value → State → Outcome → State → Prop} {XC : String → State → State → Prop} {mc ms : Nat} {free : Addr → Prop} {cc : ByteArray} {maxL : Nat} {ret : Option FieldType} {hh : List (Nat × Nat × Nat × Nat)}
    (hy : plainName y.cls = true) (hw : ws = Cond.codeWith y cc maxL ret hh :: ws')
    (body : ∀ p e s m args below meth c s₁, BodyLoose p l y (headSpec ws rm) cc maxL ret e s m args below meth c s₁ → c.maxLocals = maxL → Pc args s →
      W p l e (headSpec ws rm).room s m args below meth c s.heap [] 0 0 (vx_MQ below Qc XC args s mc ms free) (entryFrame m args maxL)) : vx_Met l y ws rm Pc Qc XC mc ms free := by
  refine MetFree.of_bodyS (code := cc) (maxLocals := maxL) (ret := ret) hy ?_ ?_
  · intro args s m h hn
    obtain ⟨m9, meth, c, hn9, h1, h2, h3, h4, -, h5, h6, -⟩ := Cond.codeWith_spec (atoms_spec (ws := ws) h _ (by rw [hw]; exact List.mem_cons_self))
    cases hn.symm.trans hn9
    exact ⟨meth, c, h1, h2, h3, h4, h5, h6⟩
  · intro p e s m args below meth c s₁ B hml hP _
    have hh0 : s₁.heap = s.heap := by rw [B.state]; rfl
    obtain ⟨t, a1, o, b1, b2, b3⟩ := body p e s m args below meth c s₁ B hml hP s₁ hh0 (Stand.of_body B)
    exact ⟨t, o, a1, b1, b2, b3⟩
/-! ===== END ===== -/
end
section
/-! ===== BEGIN printed: names, fields, word lists, decode rows ===== -/
def RX0 : String := "NameAuction$Name"
def TX0 : u_T := fun k => match k with
  | 0 => ("NameAuction$Name", "phase", "I", false)
  | 1 => ("NameAuction$Name", "holder", "I", false)
  | 2 => ("NameAuction$Name", "closing", "I", false)
  | 3 => ("NameAuction$Name", "end", "I", false)
  | 4 => ("NameAuction$Name", "record", "I", false)
  | 5 => ("NameAuction$Name", "lifetime", "I", false)
  | 6 => ("NameAuction$Name", "phaseBefore", "I", false)
  | 7 => ("NameAuction$Name", "challenger", "I", false)
  | 8 => ("NameAuction$Name", "frozenOn", "I", false)
  | 9 => ("NameAuction$Name", "amounts", "[I", true)
  | _ => ("NameAuction$Name", "turns", "[I", true)
def tyX0 : Nat → FieldType := fun k => match k with
  | 0 => .int
  | 1 => .int
  | 2 => .int
  | 3 => .int
  | 4 => .int
  | 5 => .int
  | 6 => .int
  | 7 => .int
  | 8 => .int
  | 9 => .array .int
  | _ => .array .int
abbrev wsX00 : List Cond := u_ws RX0 TX0 11
theorem nmX0 : ∀ a, a < 11 → ∀ b, b < 11 → a ≠ b → (TX0 a).2.1 ≠ (TX0 b).2.1 := by decide +kernel
theorem tyX0_ok : ∀ k, k < 11 → parseFieldDescriptor (TX0 k).2.2.1 = some (tyX0 k) := by decide +kernel
abbrev cX0_init : ByteArray := prog_2_method_1_code
def yX0_init : MethodName := ⟨RX0, "<init>", "()V"⟩
abbrev cX0_beginAuction : ByteArray := prog_2_method_2_code
def yX0_beginAuction : MethodName := ⟨RX0, "beginAuction", "(I)V"⟩
abbrev cX0_leaseTo : ByteArray := prog_2_method_3_code
def yX0_leaseTo : MethodName := ⟨RX0, "leaseTo", "(II)V"⟩
abbrev cX0_release : ByteArray := prog_2_method_4_code
def yX0_release : MethodName := ⟨RX0, "release", "()V"⟩
abbrev cX0_goOn : ByteArray := prog_2_method_5_code
def yX0_goOn : MethodName := ⟨RX0, "goOn", "()V"⟩
abbrev cX0_dayOfChange : ByteArray := prog_2_method_6_code
def yX0_dayOfChange : MethodName := ⟨RX0, "dayOfChange", "()I"⟩
abbrev cX0_freeze : ByteArray := prog_2_method_7_code
def yX0_freeze : MethodName := ⟨RX0, "freeze", "(II)V"⟩
abbrev cX0_thaw : ByteArray := prog_2_method_8_code
def yX0_thaw : MethodName := ⟨RX0, "thaw", "(ZI)V"⟩
abbrev cX0_countBids : ByteArray := prog_2_method_9_code
def yX0_countBids : MethodName := ⟨RX0, "countBids", "()I"⟩
abbrev cX0_dropBids : ByteArray := prog_2_method_10_code
def yX0_dropBids : MethodName := ⟨RX0, "dropBids", "()V"⟩
abbrev cX0_isAhead : ByteArray := prog_2_method_11_code
def yX0_isAhead : MethodName := ⟨RX0, "isAhead", "(II)Z"⟩
abbrev cX0_hasRecord : ByteArray := prog_2_method_12_code
def yX0_hasRecord : MethodName := ⟨RX0, "hasRecord", "()Z"⟩
abbrev cX0_answer : ByteArray := prog_2_method_13_code
def yX0_answer : MethodName := ⟨RX0, "answer", "()I"⟩
abbrev cX0_answerLifetime : ByteArray := prog_2_method_14_code
def yX0_answerLifetime : MethodName := ⟨RX0, "answerLifetime", "()I"⟩
def RX1 : String := "NameAuction$Resolver"
def TX1 : u_T := fun k => match k with
  | 0 => ("NameAuction$Resolver", "kept", "[Z", true)
  | 1 => ("NameAuction$Resolver", "answers", "[I", true)
  | 2 => ("NameAuction$Resolver", "lifetimes", "[I", true)
  | _ => ("NameAuction$Resolver", "takenOn", "[I", true)
def tyX1 : Nat → FieldType := fun k => match k with
  | 0 => .array .boolean
  | 1 => .array .int
  | 2 => .array .int
  | _ => .array .int
abbrev wsX10 : List Cond := u_ws RX1 TX1 4
theorem nmX1 : ∀ a, a < 4 → ∀ b, b < 4 → a ≠ b → (TX1 a).2.1 ≠ (TX1 b).2.1 := by decide +kernel
theorem tyX1_ok : ∀ k, k < 4 → parseFieldDescriptor (TX1 k).2.2.1 = some (tyX1 k) := by decide +kernel
abbrev cX1_init : ByteArray := prog_3_method_1_code
def yX1_init : MethodName := ⟨RX1, "<init>", "()V"⟩
abbrev cX1_isFresh : ByteArray := prog_3_method_2_code
def yX1_isFresh : MethodName := ⟨RX1, "isFresh", "(II)Z"⟩
abbrev cX1_keep : ByteArray := prog_3_method_3_code
def yX1_keep : MethodName := ⟨RX1, "keep", "(IIII)V"⟩
abbrev cX1_forgetAll : ByteArray := prog_3_method_4_code
def yX1_forgetAll : MethodName := ⟨RX1, "forgetAll", "()I"⟩
def RX2 : String := "NameAuction"
def TX2 : u_T := fun k => match k with
  | 0 => ("NameAuction", "money", "[I", true)
  | 1 => ("NameAuction", "names", "[LNameAuction$Name;", true)
  | 2 => ("NameAuction", "resolvers", "[LNameAuction$Resolver;", true)
  | 3 => ("NameAuction", "day", "I", false)
  | 4 => ("NameAuction", "paid", "I", false)
  | _ => ("NameAuction", "bidsMade", "I", false)
def tyX2 : Nat → FieldType := fun k => match k with
  | 0 => .array .int
  | 1 => .array (.object "NameAuction$Name")
  | 2 => .array (.object "NameAuction$Resolver")
  | 3 => .int
  | 4 => .int
  | _ => .int
abbrev wsX20 : List Cond := u_ws RX2 TX2 6
theorem nmX2 : ∀ a, a < 6 → ∀ b, b < 6 → a ≠ b → (TX2 a).2.1 ≠ (TX2 b).2.1 := by decide +kernel
theorem tyX2_ok : ∀ k, k < 6 → parseFieldDescriptor (TX2 k).2.2.1 = some (tyX2 k) := by decide +kernel
abbrev cX2_init : ByteArray := prog_1_method_1_code
def yX2_init : MethodName := ⟨RX2, "<init>", "()V"⟩
abbrev cX2_deposit : ByteArray := prog_1_method_2_code
def yX2_deposit : MethodName := ⟨RX2, "deposit", "(II)I"⟩
abbrev cX2_funds : ByteArray := prog_1_method_3_code
def yX2_funds : MethodName := ⟨RX2, "funds", "(I)I"⟩
abbrev cX2_bid : ByteArray := prog_1_method_4_code
def yX2_bid : MethodName := ⟨RX2, "bid", "(III)I"⟩
abbrev cX2_bids : ByteArray := prog_1_method_5_code
def yX2_bids : MethodName := ⟨RX2, "bids", "(I)I"⟩
abbrev cX2_renew : ByteArray := prog_1_method_6_code
def yX2_renew : MethodName := ⟨RX2, "renew", "(II)I"⟩
abbrev cX2_redeem : ByteArray := prog_1_method_7_code
def yX2_redeem : MethodName := ⟨RX2, "redeem", "(I)I"⟩
abbrev cX2_setRecord : ByteArray := prog_1_method_8_code
def yX2_setRecord : MethodName := ⟨RX2, "setRecord", "(III)I"⟩
abbrev cX2_state : ByteArray := prog_1_method_9_code
def yX2_state : MethodName := ⟨RX2, "state", "(I)I"⟩
abbrev cX2_sign : ByteArray := prog_1_method_10_code
def yX2_sign : MethodName := ⟨RX2, "sign", "(II)C"⟩
abbrev cX2_owner : ByteArray := prog_1_method_11_code
def yX2_owner : MethodName := ⟨RX2, "owner", "(I)I"⟩
abbrev cX2_next : ByteArray := prog_1_method_12_code
def yX2_next : MethodName := ⟨RX2, "next", "(I)I"⟩
abbrev cX2_dispute : ByteArray := prog_1_method_13_code
def yX2_dispute : MethodName := ⟨RX2, "dispute", "(II)I"⟩
abbrev cX2_decide : ByteArray := prog_1_method_14_code
def yX2_decide : MethodName := ⟨RX2, "decide", "(IZ)I"⟩
abbrev cX2_pass : ByteArray := prog_1_method_15_code
def yX2_pass : MethodName := ⟨RX2, "pass", "(I)I"⟩
abbrev cX2_today : ByteArray := prog_1_method_16_code
def yX2_today : MethodName := ⟨RX2, "today", "()I"⟩
abbrev cX2_takings : ByteArray := prog_1_method_17_code
def yX2_takings : MethodName := ⟨RX2, "takings", "()I"⟩
abbrev cX2_lookUp : ByteArray := prog_1_method_18_code
def yX2_lookUp : MethodName := ⟨RX2, "lookUp", "(II)I"⟩
abbrev cX2_isStale : ByteArray := prog_1_method_19_code
def yX2_isStale : MethodName := ⟨RX2, "isStale", "(II)Z"⟩
abbrev cX2_flush : ByteArray := prog_1_method_20_code
def yX2_flush : MethodName := ⟨RX2, "flush", "(I)I"⟩
abbrev cX2_checkIndex : ByteArray := prog_1_method_21_code
def yX2_checkIndex : MethodName := ⟨RX2, "checkIndex", "(II)V"⟩
abbrev cX2_checkRange : ByteArray := prog_1_method_22_code
def yX2_checkRange : MethodName := ⟨RX2, "checkRange", "(III)V"⟩
abbrev cX2_checkPossible : ByteArray := prog_1_method_23_code
def yX2_checkPossible : MethodName := ⟨RX2, "checkPossible", "(Z)V"⟩
abbrev cX2_isHeld : ByteArray := prog_1_method_24_code
def yX2_isHeld : MethodName := ⟨RX2, "isHeld", "(I)Z"⟩
abbrev cX2_wordOf : ByteArray := prog_1_method_25_code
def yX2_wordOf : MethodName := ⟨RX2, "wordOf", "(I)Ljava/lang/String;"⟩
abbrev cX2_canPay : ByteArray := prog_1_method_26_code
def yX2_canPay : MethodName := ⟨RX2, "canPay", "(II)Z"⟩
abbrev cX2_pay : ByteArray := prog_1_method_27_code
def yX2_pay : MethodName := ⟨RX2, "pay", "(II)V"⟩
abbrev cX2_changeNames : ByteArray := prog_1_method_28_code
def yX2_changeNames : MethodName := ⟨RX2, "changeNames", "()I"⟩
abbrev cX2_closeAuction : ByteArray := prog_1_method_29_code
def yX2_closeAuction : MethodName := ⟨RX2, "closeAuction", "(LNameAuction$Name;)Z"⟩
abbrev cX2_bestBidder : ByteArray := prog_1_method_30_code
def yX2_bestBidder : MethodName := ⟨RX2, "bestBidder", "(LNameAuction$Name;I)I"⟩
def RX3 : String := "NameAuctionModel"
def TX3 : u_T := fun k => match k with
  | 0 => ("NameAuctionModel", "today", "I", false)
  | 1 => ("NameAuctionModel", "takings", "I", false)
  | 2 => ("NameAuctionModel", "funds", "[I", true)
  | 3 => ("NameAuctionModel", "state", "[I", true)
  | 4 => ("NameAuctionModel", "owner", "[I", true)
  | 5 => ("NameAuctionModel", "day", "[I", true)
  | 6 => ("NameAuctionModel", "record", "[I", true)
  | 7 => ("NameAuctionModel", "lifetime", "[I", true)
  | 8 => ("NameAuctionModel", "challenger", "[I", true)
  | 9 => ("NameAuctionModel", "since", "[I", true)
  | 10 => ("NameAuctionModel", "before", "[I", true)
  | 11 => ("NameAuctionModel", "amount", "[I", true)
  | 12 => ("NameAuctionModel", "came", "[I", true)
  | 13 => ("NameAuctionModel", "clock", "I", false)
  | 14 => ("NameAuctionModel", "taken", "[I", true)
  | 15 => ("NameAuctionModel", "answer", "[I", true)
  | 16 => ("NameAuctionModel", "lives", "[I", true)
  | _ => ("NameAuctionModel", "thrown", "I", false)
def tyX3 : Nat → FieldType := fun k => match k with
  | 0 => .int
  | 1 => .int
  | 2 => .array .int
  | 3 => .array .int
  | 4 => .array .int
  | 5 => .array .int
  | 6 => .array .int
  | 7 => .array .int
  | 8 => .array .int
  | 9 => .array .int
  | 10 => .array .int
  | 11 => .array .int
  | 12 => .array .int
  | 13 => .int
  | 14 => .array .int
  | 15 => .array .int
  | 16 => .array .int
  | _ => .int
abbrev wsX30 : List Cond := u_ws RX3 TX3 18
theorem nmX3 : ∀ a, a < 18 → ∀ b, b < 18 → a ≠ b → (TX3 a).2.1 ≠ (TX3 b).2.1 := by decide +kernel
theorem tyX3_ok : ∀ k, k < 18 → parseFieldDescriptor (TX3 k).2.2.1 = some (tyX3 k) := by decide +kernel
abbrev cX3_init : ByteArray := prog_5_method_1_code
def yX3_init : MethodName := ⟨RX3, "<init>", "()V"⟩
abbrev cX3_thrown : ByteArray := prog_5_method_2_code
def yX3_thrown : MethodName := ⟨RX3, "thrown", "()I"⟩
abbrev cX3_fails : ByteArray := prog_5_method_3_code
def yX3_fails : MethodName := ⟨RX3, "fails", "(I)Z"⟩
abbrev cX3_isIn : ByteArray := prog_5_method_4_code
def yX3_isIn : MethodName := ⟨RX3, "isIn", "(III)Z"⟩
abbrev cX3_isName : ByteArray := prog_5_method_5_code
def yX3_isName : MethodName := ⟨RX3, "isName", "(I)Z"⟩
abbrev cX3_isOwner : ByteArray := prog_5_method_6_code
def yX3_isOwner : MethodName := ⟨RX3, "isOwner", "(I)Z"⟩
abbrev cX3_deposit : ByteArray := prog_5_method_7_code
def yX3_deposit : MethodName := ⟨RX3, "deposit", "(II)I"⟩
abbrev cX3_funds : ByteArray := prog_5_method_8_code
def yX3_funds : MethodName := ⟨RX3, "funds", "(I)I"⟩
abbrev cX3_bid : ByteArray := prog_5_method_9_code
def yX3_bid : MethodName := ⟨RX3, "bid", "(III)I"⟩
abbrev cX3_bids : ByteArray := prog_5_method_10_code
def yX3_bids : MethodName := ⟨RX3, "bids", "(I)I"⟩
abbrev cX3_clears : ByteArray := prog_5_method_11_code
def yX3_clears : MethodName := ⟨RX3, "clears", "(I)V"⟩
abbrev cX3_leases : ByteArray := prog_5_method_12_code
def yX3_leases : MethodName := ⟨RX3, "leases", "(II)V"⟩
abbrev cX3_bestBut : ByteArray := prog_5_method_13_code
def yX3_bestBut : MethodName := ⟨RX3, "bestBut", "(II)I"⟩
abbrev cX3_pays : ByteArray := prog_5_method_14_code
def yX3_pays : MethodName := ⟨RX3, "pays", "(II)V"⟩
abbrev cX3_closes : ByteArray := prog_5_method_15_code
def yX3_closes : MethodName := ⟨RX3, "closes", "(I)I"⟩
abbrev cX3_renew : ByteArray := prog_5_method_16_code
def yX3_renew : MethodName := ⟨RX3, "renew", "(II)I"⟩
abbrev cX3_redeem : ByteArray := prog_5_method_17_code
def yX3_redeem : MethodName := ⟨RX3, "redeem", "(I)I"⟩
abbrev cX3_setRecord : ByteArray := prog_5_method_18_code
def yX3_setRecord : MethodName := ⟨RX3, "setRecord", "(III)I"⟩
abbrev cX3_state : ByteArray := prog_5_method_19_code
def yX3_state : MethodName := ⟨RX3, "state", "(I)I"⟩
abbrev cX3_letter : ByteArray := prog_5_method_20_code
def yX3_letter : MethodName := ⟨RX3, "letter", "(II)C"⟩
abbrev cX3_signOf : ByteArray := prog_5_method_21_code
def yX3_signOf : MethodName := ⟨RX3, "signOf", "(II)C"⟩
abbrev cX3_sign : ByteArray := prog_5_method_22_code
def yX3_sign : MethodName := ⟨RX3, "sign", "(II)C"⟩
abbrev cX3_owner : ByteArray := prog_5_method_23_code
def yX3_owner : MethodName := ⟨RX3, "owner", "(I)I"⟩
abbrev cX3_nextOf : ByteArray := prog_5_method_24_code
def yX3_nextOf : MethodName := ⟨RX3, "nextOf", "(I)I"⟩
abbrev cX3_next : ByteArray := prog_5_method_25_code
def yX3_next : MethodName := ⟨RX3, "next", "(I)I"⟩
abbrev cX3_dispute : ByteArray := prog_5_method_26_code
def yX3_dispute : MethodName := ⟨RX3, "dispute", "(II)I"⟩
abbrev cX3_decide : ByteArray := prog_5_method_27_code
def yX3_decide : MethodName := ⟨RX3, "decide", "(IZ)I"⟩
abbrev cX3_goesOn : ByteArray := prog_5_method_28_code
def yX3_goesOn : MethodName := ⟨RX3, "goesOn", "(I)I"⟩
abbrev cX3_pass : ByteArray := prog_5_method_29_code
def yX3_pass : MethodName := ⟨RX3, "pass", "(I)I"⟩
abbrev cX3_today : ByteArray := prog_5_method_30_code
def yX3_today : MethodName := ⟨RX3, "today", "()I"⟩
abbrev cX3_takings : ByteArray := prog_5_method_31_code
def yX3_takings : MethodName := ⟨RX3, "takings", "()I"⟩
abbrev cX3_hasRecord : ByteArray := prog_5_method_32_code
def yX3_hasRecord : MethodName := ⟨RX3, "hasRecord", "(I)Z"⟩
abbrev cX3_answerOf : ByteArray := prog_5_method_33_code
def yX3_answerOf : MethodName := ⟨RX3, "answerOf", "(I)I"⟩
abbrev cX3_isPlace : ByteArray := prog_5_method_34_code
def yX3_isPlace : MethodName := ⟨RX3, "isPlace", "(II)Z"⟩
abbrev cX3_isYoung : ByteArray := prog_5_method_35_code
def yX3_isYoung : MethodName := ⟨RX3, "isYoung", "(I)Z"⟩
abbrev cX3_lookUp : ByteArray := prog_5_method_36_code
def yX3_lookUp : MethodName := ⟨RX3, "lookUp", "(II)I"⟩
abbrev cX3_isStale : ByteArray := prog_5_method_37_code
def yX3_isStale : MethodName := ⟨RX3, "isStale", "(II)Z"⟩
abbrev cX3_flush : ByteArray := prog_5_method_38_code
def yX3_flush : MethodName := ⟨RX3, "flush", "(I)I"⟩
def RJx145de : String := "java/io/Serializable"
def TJx145de : u_T := fun k => match k with
  | _ => ("", "", "", false)
def tyJx145de : Nat → FieldType := fun k => match k with
  | _ => .int
abbrev wsJx145de0 : List Cond := u_ws RJx145de TJx145de 0
theorem nmJx145de : ∀ a, a < 0 → ∀ b, b < 0 → a ≠ b → (TJx145de a).2.1 ≠ (TJx145de b).2.1 := by decide +kernel
theorem tyJx145de_ok : ∀ k, k < 0 → parseFieldDescriptor (TJx145de k).2.2.1 = some (tyJx145de k) := by decide +kernel
def RJx9f9b0 : String := "java/lang/CharSequence"
def TJx9f9b0 : u_T := fun k => match k with
  | _ => ("", "", "", false)
def tyJx9f9b0 : Nat → FieldType := fun k => match k with
  | _ => .int
abbrev wsJx9f9b00 : List Cond := u_ws RJx9f9b0 TJx9f9b0 0
theorem nmJx9f9b0 : ∀ a, a < 0 → ∀ b, b < 0 → a ≠ b → (TJx9f9b0 a).2.1 ≠ (TJx9f9b0 b).2.1 := by decide +kernel
theorem tyJx9f9b0_ok : ∀ k, k < 0 → parseFieldDescriptor (TJx9f9b0 k).2.2.1 = some (tyJx9f9b0 k) := by decide +kernel
def RJxb160c : String := "java/lang/Comparable"
def TJxb160c : u_T := fun k => match k with
  | _ => ("", "", "", false)
def tyJxb160c : Nat → FieldType := fun k => match k with
  | _ => .int
abbrev wsJxb160c0 : List Cond := u_ws RJxb160c TJxb160c 0
theorem nmJxb160c : ∀ a, a < 0 → ∀ b, b < 0 → a ≠ b → (TJxb160c a).2.1 ≠ (TJxb160c b).2.1 := by decide +kernel
theorem tyJxb160c_ok : ∀ k, k < 0 → parseFieldDescriptor (TJxb160c k).2.2.1 = some (tyJxb160c k) := by decide +kernel
def RJ0 : String := "java/lang/String"
def TJ0 : u_T := fun k => match k with
  | _ => ("", "", "", false)
def tyJ0 : Nat → FieldType := fun k => match k with
  | _ => .int
abbrev wsJ00 : List Cond := u_ws RJ0 TJ0 0
theorem nmJ0 : ∀ a, a < 0 → ∀ b, b < 0 → a ≠ b → (TJ0 a).2.1 ≠ (TJ0 b).2.1 := by decide +kernel
theorem tyJ0_ok : ∀ k, k < 0 → parseFieldDescriptor (TJ0 k).2.2.1 = some (tyJ0 k) := by decide +kernel
abbrev cJ0_length_8abf5 : ByteArray := prog_11_method_54_code
def yJ0_length_8abf5 : MethodName := ⟨RJ0, "length", "()I"⟩
abbrev cJ0_charAt_5068e : ByteArray := prog_11_method_56_code
def yJ0_charAt_5068e : MethodName := ⟨RJ0, "charAt", "(I)C"⟩
abbrev cJ0_coder_7d493 : ByteArray := prog_11_method_152_code
def yJ0_coder_7d493 : MethodName := ⟨RJ0, "coder", "()B"⟩
abbrev cJ0_isLatin1_aae02 : ByteArray := prog_11_method_154_code
def yJ0_isLatin1_aae02 : MethodName := ⟨RJ0, "isLatin1", "()Z"⟩
abbrev cJ0_checkIndex_df160 : ByteArray := prog_11_method_155_code
def yJ0_checkIndex_df160 : MethodName := ⟨RJ0, "checkIndex", "(II)V"⟩
def RJ1 : String := "java/lang/StringLatin1"
def TJ1 : u_T := fun k => match k with
  | _ => ("", "", "", false)
def tyJ1 : Nat → FieldType := fun k => match k with
  | _ => .int
abbrev wsJ10 : List Cond := u_ws RJ1 TJ1 0
theorem nmJ1 : ∀ a, a < 0 → ∀ b, b < 0 → a ≠ b → (TJ1 a).2.1 ≠ (TJ1 b).2.1 := by decide +kernel
theorem tyJ1_ok : ∀ k, k < 0 → parseFieldDescriptor (TJ1 k).2.2.1 = some (tyJ1 k) := by decide +kernel
abbrev cJ1_charAt_3b067 : ByteArray := prog_12_method_2_code
def yJ1_charAt_3b067 : MethodName := ⟨RJ1, "charAt", "([BI)C"⟩
def RJ2 : String := "java/lang/StringUTF16"
def TJ2 : u_T := fun k => match k with
  | _ => ("", "", "", false)
def tyJ2 : Nat → FieldType := fun k => match k with
  | _ => .int
abbrev wsJ20 : List Cond := u_ws RJ2 TJ2 0
theorem nmJ2 : ∀ a, a < 0 → ∀ b, b < 0 → a ≠ b → (TJ2 a).2.1 ≠ (TJ2 b).2.1 := by decide +kernel
theorem tyJ2_ok : ∀ k, k < 0 → parseFieldDescriptor (TJ2 k).2.2.1 = some (tyJ2 k) := by decide +kernel
abbrev cJ2_getChar_3b067 : ByteArray := prog_13_method_5_code
def yJ2_getChar_3b067 : MethodName := ⟨RJ2, "getChar", "([BI)C"⟩
abbrev cJ2_length_9d52b : ByteArray := prog_13_method_6_code
def yJ2_length_9d52b : MethodName := ⟨RJ2, "length", "([B)I"⟩
abbrev cJ2_charAt_3b067 : ByteArray := prog_13_method_83_code
def yJ2_charAt_3b067 : MethodName := ⟨RJ2, "charAt", "([BI)C"⟩
abbrev cJ2_checkIndex_2214a : ByteArray := prog_13_method_91_code
def yJ2_checkIndex_2214a : MethodName := ⟨RJ2, "checkIndex", "(I[B)V"⟩
def RJxfd54e : String := "java/lang/constant/Constable"
def TJxfd54e : u_T := fun k => match k with
  | _ => ("", "", "", false)
def tyJxfd54e : Nat → FieldType := fun k => match k with
  | _ => .int
abbrev wsJxfd54e0 : List Cond := u_ws RJxfd54e TJxfd54e 0
theorem nmJxfd54e : ∀ a, a < 0 → ∀ b, b < 0 → a ≠ b → (TJxfd54e a).2.1 ≠ (TJxfd54e b).2.1 := by decide +kernel
theorem tyJxfd54e_ok : ∀ k, k < 0 → parseFieldDescriptor (TJxfd54e k).2.2.1 = some (tyJxfd54e k) := by decide +kernel
def RJx3cf43 : String := "java/lang/constant/ConstantDesc"
def TJx3cf43 : u_T := fun k => match k with
  | _ => ("", "", "", false)
def tyJx3cf43 : Nat → FieldType := fun k => match k with
  | _ => .int
abbrev wsJx3cf430 : List Cond := u_ws RJx3cf43 TJx3cf43 0
theorem nmJx3cf43 : ∀ a, a < 0 → ∀ b, b < 0 → a ≠ b → (TJx3cf43 a).2.1 ≠ (TJx3cf43 b).2.1 := by decide +kernel
theorem tyJx3cf43_ok : ∀ k, k < 0 → parseFieldDescriptor (TJx3cf43 k).2.2.1 = some (tyJx3cf43 k) := by decide +kernel
def RJ7 : String := "java/util/Arrays"
def TJ7 : u_T := fun k => match k with
  | _ => ("", "", "", false)
def tyJ7 : Nat → FieldType := fun k => match k with
  | _ => .int
abbrev wsJ70 : List Cond := u_ws RJ7 TJ7 0
theorem nmJ7 : ∀ a, a < 0 → ∀ b, b < 0 → a ≠ b → (TJ7 a).2.1 ≠ (TJ7 b).2.1 := by decide +kernel
theorem tyJ7_ok : ∀ k, k < 0 → parseFieldDescriptor (TJ7 k).2.2.1 = some (tyJ7 k) := by decide +kernel
abbrev cJ7_fill_53178 : ByteArray := prog_15_method_103_code
def yJ7_fill_53178 : MethodName := ⟨RJ7, "fill", "([II)V"⟩
def RJ3 : String := "jdk/internal/util/Preconditions"
def TJ3 : u_T := fun k => match k with
  | _ => ("", "", "", false)
def tyJ3 : Nat → FieldType := fun k => match k with
  | _ => .int
abbrev wsJ30 : List Cond := u_ws RJ3 TJ3 0
theorem nmJ3 : ∀ a, a < 0 → ∀ b, b < 0 → a ≠ b → (TJ3 a).2.1 ≠ (TJ3 b).2.1 := by decide +kernel
theorem tyJ3_ok : ∀ k, k < 0 → parseFieldDescriptor (TJ3 k).2.2.1 = some (tyJ3 k) := by decide +kernel
abbrev cJ3_checkIndex_8e157 : ByteArray := prog_16_method_11_code
def yJ3_checkIndex_8e157 : MethodName := ⟨RJ3, "checkIndex", "(IILjava/util/function/BiFunction;)I"⟩
def RL : String := "NameAuctionLaw"
abbrev cL_deposit : ByteArray := method_3_code
def yL_deposit : MethodName := ⟨RL, "deposit", "(LNameAuction;II[J)I"⟩
abbrev cL_funds : ByteArray := method_4_code
def yL_funds : MethodName := ⟨RL, "funds", "(LNameAuction;I[J)I"⟩
abbrev cL_bid : ByteArray := method_5_code
def yL_bid : MethodName := ⟨RL, "bid", "(LNameAuction;III[J)I"⟩
abbrev cL_bids : ByteArray := method_6_code
def yL_bids : MethodName := ⟨RL, "bids", "(LNameAuction;I[J)I"⟩
abbrev cL_renew : ByteArray := method_7_code
def yL_renew : MethodName := ⟨RL, "renew", "(LNameAuction;II[J)I"⟩
abbrev cL_redeem : ByteArray := method_8_code
def yL_redeem : MethodName := ⟨RL, "redeem", "(LNameAuction;I[J)I"⟩
abbrev cL_setRecord : ByteArray := method_9_code
def yL_setRecord : MethodName := ⟨RL, "setRecord", "(LNameAuction;III[J)I"⟩
abbrev cL_state : ByteArray := method_10_code
def yL_state : MethodName := ⟨RL, "state", "(LNameAuction;I[J)I"⟩
abbrev cL_sign : ByteArray := method_11_code
def yL_sign : MethodName := ⟨RL, "sign", "(LNameAuction;II[J)I"⟩
abbrev cL_owner : ByteArray := method_12_code
def yL_owner : MethodName := ⟨RL, "owner", "(LNameAuction;I[J)I"⟩
abbrev cL_next : ByteArray := method_13_code
def yL_next : MethodName := ⟨RL, "next", "(LNameAuction;I[J)I"⟩
abbrev cL_dispute : ByteArray := method_14_code
def yL_dispute : MethodName := ⟨RL, "dispute", "(LNameAuction;II[J)I"⟩
abbrev cL_decide : ByteArray := method_15_code
def yL_decide : MethodName := ⟨RL, "decide", "(LNameAuction;IZ[J)I"⟩
abbrev cL_pass : ByteArray := method_16_code
def yL_pass : MethodName := ⟨RL, "pass", "(LNameAuction;I[J)I"⟩
abbrev cL_lookUp : ByteArray := method_17_code
def yL_lookUp : MethodName := ⟨RL, "lookUp", "(LNameAuction;II[J)I"⟩
abbrev cL_isStale : ByteArray := method_18_code
def yL_isStale : MethodName := ⟨RL, "isStale", "(LNameAuction;II[J)I"⟩
abbrev cL_flush : ByteArray := method_19_code
def yL_flush : MethodName := ⟨RL, "flush", "(LNameAuction;I[J)I"⟩
abbrev cL_law : ByteArray := code
def yL_law : MethodName := ⟨RL, "law", "([I)Z"⟩
def wsX0_init : List Cond := .code yX0_init cX0_init 1 none :: ([.methodLink RX0 3 objectInit, .instanceMethod objectInit, .code objectInit ⟨#[0xb1]⟩ 1 none, .fieldLink RX0 9 "NameAuction$Name" "phase" "I", .fieldLink RX0 15 "NameAuction$Name" "holder" "I", .arrayClass .int, .fieldLink RX0 18 "NameAuction$Name" "amounts" "[I", .fieldLink RX0 22 "NameAuction$Name" "turns" "[I"] ++ wsX00)
def wsX0_beginAuction : List Cond := .code yX0_beginAuction cX0_beginAuction 2 none :: ([.fieldLink RX0 9 "NameAuction$Name" "phase" "I", .fieldLink RX0 25 "NameAuction$Name" "closing" "I"] ++ wsX00)
def wsJ7_fill_53178 : List Cond := .code yJ7_fill_53178 cJ7_fill_53178 4 none :: ([])
def wsX0_dropBids : List Cond := .code yX0_dropBids cX0_dropBids 1 none :: ([.fieldLink RX0 18 "NameAuction$Name" "amounts" "[I", .methodLink RX0 56 yJ7_fill_53178, .static yJ7_fill_53178, .initialized RJ7, .code yJ7_fill_53178 cJ7_fill_53178 4 none] ++ wsX00)
def wsX0_leaseTo : List Cond := .code yX0_leaseTo cX0_leaseTo 3 none :: ([.fieldLink RX0 9 "NameAuction$Name" "phase" "I", .fieldLink RX0 15 "NameAuction$Name" "holder" "I", .fieldLink RX0 31 "NameAuction$Name" "end" "I", .fieldLink RX0 34 "NameAuction$Name" "record" "I", .fieldLink RX0 37 "NameAuction$Name" "lifetime" "I", .methodLink RX0 28 yX0_dropBids, .instanceMethod yX0_dropBids, .selects RX0 yX0_dropBids yX0_dropBids, .initialized RX0, .code yX0_dropBids cX0_dropBids 1 none, .fieldLink RX0 18 "NameAuction$Name" "amounts" "[I", .methodLink RX0 56 yJ7_fill_53178, .static yJ7_fill_53178, .initialized RJ7, .code yJ7_fill_53178 cJ7_fill_53178 4 none] ++ wsX00)
def wsX0_release : List Cond := .code yX0_release cX0_release 1 none :: ([.fieldLink RX0 9 "NameAuction$Name" "phase" "I", .fieldLink RX0 15 "NameAuction$Name" "holder" "I", .methodLink RX0 28 yX0_dropBids, .instanceMethod yX0_dropBids, .selects RX0 yX0_dropBids yX0_dropBids, .initialized RX0, .code yX0_dropBids cX0_dropBids 1 none, .fieldLink RX0 18 "NameAuction$Name" "amounts" "[I", .methodLink RX0 56 yJ7_fill_53178, .static yJ7_fill_53178, .initialized RJ7, .code yJ7_fill_53178 cJ7_fill_53178 4 none] ++ wsX00)
def wsX0_goOn : List Cond := .code yX0_goOn cX0_goOn 1 none :: ([.fieldLink RX0 9 "NameAuction$Name" "phase" "I", .methodLink RX0 40 yX0_release, .instanceMethod yX0_release, .selects RX0 yX0_release yX0_release, .initialized RX0, .code yX0_release cX0_release 1 none, .fieldLink RX0 15 "NameAuction$Name" "holder" "I", .methodLink RX0 28 yX0_dropBids, .instanceMethod yX0_dropBids, .selects RX0 yX0_dropBids yX0_dropBids, .code yX0_dropBids cX0_dropBids 1 none, .fieldLink RX0 18 "NameAuction$Name" "amounts" "[I", .methodLink RX0 56 yJ7_fill_53178, .static yJ7_fill_53178, .initialized RJ7, .code yJ7_fill_53178 cJ7_fill_53178 4 none] ++ wsX00)
def wsX0_dayOfChange : List Cond := .code yX0_dayOfChange cX0_dayOfChange 1 (some .int) :: ([.fieldLink RX0 9 "NameAuction$Name" "phase" "I", .fieldLink RX0 25 "NameAuction$Name" "closing" "I", .fieldLink RX0 31 "NameAuction$Name" "end" "I"] ++ wsX00)
def wsX0_freeze : List Cond := .code yX0_freeze cX0_freeze 3 none :: ([.fieldLink RX0 9 "NameAuction$Name" "phase" "I", .fieldLink RX0 43 "NameAuction$Name" "phaseBefore" "I", .fieldLink RX0 46 "NameAuction$Name" "challenger" "I", .fieldLink RX0 49 "NameAuction$Name" "frozenOn" "I", .methodLink RX0 28 yX0_dropBids, .instanceMethod yX0_dropBids, .selects RX0 yX0_dropBids yX0_dropBids, .initialized RX0, .code yX0_dropBids cX0_dropBids 1 none, .fieldLink RX0 18 "NameAuction$Name" "amounts" "[I", .methodLink RX0 56 yJ7_fill_53178, .static yJ7_fill_53178, .initialized RJ7, .code yJ7_fill_53178 cJ7_fill_53178 4 none] ++ wsX00)
def wsX0_thaw_r1 : List Cond := [Cond.fieldLink RX0 43 "NameAuction$Name" "phaseBefore" "I", Cond.fieldLink RX0 9 "NameAuction$Name" "phase" "I", Cond.fieldLink RX0 31 "NameAuction$Name" "end" "I", Cond.fieldLink RX0 49 "NameAuction$Name" "frozenOn" "I", Cond.fieldLink RX0 46 "NameAuction$Name" "challenger" "I", Cond.fieldLink RX0 15 "NameAuction$Name" "holder" "I", Cond.methodLink RX0 52 yX0_leaseTo, Cond.instanceMethod yX0_leaseTo, Cond.selects RX0 yX0_leaseTo yX0_leaseTo, Cond.initialized RX0, Cond.code yX0_leaseTo cX0_leaseTo 3 none, Cond.fieldLink RX0 34 "NameAuction$Name" "record" "I", Cond.fieldLink RX0 37 "NameAuction$Name" "lifetime" "I", Cond.methodLink RX0 28 yX0_dropBids, Cond.instanceMethod yX0_dropBids, Cond.selects RX0 yX0_dropBids yX0_dropBids, Cond.code yX0_dropBids cX0_dropBids 1 none, Cond.fieldLink RX0 18 "NameAuction$Name" "amounts" "[I", Cond.methodLink RX0 56 yJ7_fill_53178, Cond.static yJ7_fill_53178, Cond.initialized RJ7, Cond.code yJ7_fill_53178 cJ7_fill_53178 4 none, Cond.methodLink RX0 40 yX0_release, Cond.instanceMethod yX0_release]
def wsX0_thaw_r2 : List Cond := [Cond.selects RX0 yX0_release yX0_release, Cond.code yX0_release cX0_release 1 none]
def wsX0_thaw : List Cond := .code yX0_thaw cX0_thaw 3 none :: ((wsX0_thaw_r1 ++ wsX0_thaw_r2) ++ wsX00)
def wsX0_countBids : List Cond := .code yX0_countBids cX0_countBids 3 (some .int) :: ([.fieldLink RX0 18 "NameAuction$Name" "amounts" "[I"] ++ wsX00)
def wsX0_isAhead : List Cond := .code yX0_isAhead cX0_isAhead 3 (some .boolean) :: ([.fieldLink RX0 18 "NameAuction$Name" "amounts" "[I", .fieldLink RX0 22 "NameAuction$Name" "turns" "[I"] ++ wsX00)
def wsX2_isHeld : List Cond := .code yX2_isHeld cX2_isHeld 1 (some .boolean) :: ([])
def wsX0_hasRecord : List Cond := .code yX0_hasRecord cX0_hasRecord 1 (some .boolean) :: ([.fieldLink RX0 9 "NameAuction$Name" "phase" "I", .fieldLink RX0 43 "NameAuction$Name" "phaseBefore" "I", .static yX2_isHeld, .initialized RX2, .code yX2_isHeld cX2_isHeld 1 (some .boolean)] ++ wsX00)
def wsX0_answer : List Cond := .code yX0_answer cX0_answer 1 (some .int) :: ([.fieldLink RX0 34 "NameAuction$Name" "record" "I", .methodLink RX0 66 yX0_hasRecord, .instanceMethod yX0_hasRecord, .selects RX0 yX0_hasRecord yX0_hasRecord, .initialized RX0, .code yX0_hasRecord cX0_hasRecord 1 (some .boolean), .fieldLink RX0 9 "NameAuction$Name" "phase" "I", .fieldLink RX0 43 "NameAuction$Name" "phaseBefore" "I", .static yX2_isHeld, .initialized RX2, .code yX2_isHeld cX2_isHeld 1 (some .boolean)] ++ wsX00)
def wsX0_answerLifetime : List Cond := .code yX0_answerLifetime cX0_answerLifetime 1 (some .int) :: ([.fieldLink RX0 37 "NameAuction$Name" "lifetime" "I", .methodLink RX0 66 yX0_hasRecord, .instanceMethod yX0_hasRecord, .selects RX0 yX0_hasRecord yX0_hasRecord, .initialized RX0, .code yX0_hasRecord cX0_hasRecord 1 (some .boolean), .fieldLink RX0 9 "NameAuction$Name" "phase" "I", .fieldLink RX0 43 "NameAuction$Name" "phaseBefore" "I", .static yX2_isHeld, .initialized RX2, .code yX2_isHeld cX2_isHeld 1 (some .boolean)] ++ wsX00)
def wsX1_init : List Cond := .code yX1_init cX1_init 1 none :: ([.methodLink RX1 3 objectInit, .instanceMethod objectInit, .code objectInit ⟨#[0xb1]⟩ 1 none, .arrayClass .boolean, .fieldLink RX1 9 "NameAuction$Resolver" "kept" "[Z", .arrayClass .int, .fieldLink RX1 15 "NameAuction$Resolver" "answers" "[I", .fieldLink RX1 19 "NameAuction$Resolver" "lifetimes" "[I", .fieldLink RX1 22 "NameAuction$Resolver" "takenOn" "[I"] ++ wsX10)
def wsX1_isFresh : List Cond := .code yX1_isFresh cX1_isFresh 3 (some .boolean) :: ([.fieldLink RX1 9 "NameAuction$Resolver" "kept" "[Z", .fieldLink RX1 22 "NameAuction$Resolver" "takenOn" "[I", .fieldLink RX1 19 "NameAuction$Resolver" "lifetimes" "[I"] ++ wsX10)
def wsX1_keep : List Cond := .code yX1_keep cX1_keep 5 none :: ([.fieldLink RX1 9 "NameAuction$Resolver" "kept" "[Z", .fieldLink RX1 15 "NameAuction$Resolver" "answers" "[I", .fieldLink RX1 19 "NameAuction$Resolver" "lifetimes" "[I", .fieldLink RX1 22 "NameAuction$Resolver" "takenOn" "[I"] ++ wsX10)
def wsX1_forgetAll : List Cond := .code yX1_forgetAll cX1_forgetAll 3 (some .int) :: ([.fieldLink RX1 9 "NameAuction$Resolver" "kept" "[Z"] ++ wsX10)
def wsX2_init_r1 : List Cond := [Cond.methodLink RX2 1 objectInit, Cond.instanceMethod objectInit, Cond.code objectInit ⟨#[0xb1]⟩ 1 none, Cond.arrayClass .int, Cond.fieldLink RX2 9 "NameAuction" "money" "[I", Cond.classLink RX2 13 RX0, Cond.fieldLink RX2 15 "NameAuction" "names" "[LNameAuction$Name;", Cond.classLink RX2 19 RX1, Cond.fieldLink RX2 21 "NameAuction" "resolvers" "[LNameAuction$Resolver;", Cond.instantiable RX0 11, Cond.initialized RX0, Cond.instantiable RX1 4, Cond.initialized RX1, Cond.instanceMethod yX0_init, Cond.code yX0_init cX0_init 1 none, Cond.methodLink RX0 3 objectInit, Cond.fieldLink RX0 9 "NameAuction$Name" "phase" "I", Cond.fieldLink RX0 15 "NameAuction$Name" "holder" "I", Cond.fieldLink RX0 18 "NameAuction$Name" "amounts" "[I", Cond.fieldLink RX0 22 "NameAuction$Name" "turns" "[I", Cond.instanceMethod yX1_init, Cond.code yX1_init cX1_init 1 none, Cond.methodLink RX1 3 objectInit, Cond.arrayClass .boolean]
def wsX2_init_r2 : List Cond := [Cond.fieldLink RX1 9 "NameAuction$Resolver" "kept" "[Z", Cond.fieldLink RX1 15 "NameAuction$Resolver" "answers" "[I", Cond.fieldLink RX1 19 "NameAuction$Resolver" "lifetimes" "[I", Cond.fieldLink RX1 22 "NameAuction$Resolver" "takenOn" "[I"]
def wsX2_init : List Cond := .code yX2_init cX2_init 2 none :: ((wsX2_init_r1 ++ wsX2_init_r2) ++ wsX20 ++ wsX00 ++ wsX10)
def wsX2_checkIndex : List Cond := .code yX2_checkIndex cX2_checkIndex 2 none :: ([.classLink RX2 141 "java/lang/IndexOutOfBoundsException", .initialized "java/lang/IndexOutOfBoundsException"] ++ (vx_at0 RX2 143 "java/lang/IndexOutOfBoundsException" ["java/lang/RuntimeException", "java/lang/Exception"]).filter goodWord)
def wsX2_checkRange : List Cond := .code yX2_checkRange cX2_checkRange 3 none :: ([.classLink RX2 144 "java/lang/IllegalArgumentException", .initialized "java/lang/IllegalArgumentException"] ++ (vx_at0 RX2 146 "java/lang/IllegalArgumentException" ["java/lang/RuntimeException", "java/lang/Exception"]).filter goodWord)
def wsX2_deposit : List Cond := .code yX2_deposit cX2_deposit 3 (some .int) :: ([.constant RX2 31 (100000), .fieldLink RX2 9 "NameAuction" "money" "[I", .methodLink RX2 27 yX2_checkIndex, .static yX2_checkIndex, .initialized RX2, .code yX2_checkIndex cX2_checkIndex 2 none, .classLink RX2 141 "java/lang/IndexOutOfBoundsException", .initialized "java/lang/IndexOutOfBoundsException", .methodLink RX2 32 yX2_checkRange, .static yX2_checkRange, .code yX2_checkRange cX2_checkRange 3 none, .classLink RX2 144 "java/lang/IllegalArgumentException", .initialized "java/lang/IllegalArgumentException"] ++ wsX20 ++ (vx_at0 RX2 143 "java/lang/IndexOutOfBoundsException" ["java/lang/RuntimeException", "java/lang/Exception"]).filter goodWord ++ (vx_at0 RX2 146 "java/lang/IllegalArgumentException" ["java/lang/RuntimeException", "java/lang/Exception"]).filter goodWord)
def wsX2_funds : List Cond := .code yX2_funds cX2_funds 2 (some .int) :: ([.fieldLink RX2 9 "NameAuction" "money" "[I", .methodLink RX2 27 yX2_checkIndex, .static yX2_checkIndex, .initialized RX2, .code yX2_checkIndex cX2_checkIndex 2 none, .classLink RX2 141 "java/lang/IndexOutOfBoundsException", .initialized "java/lang/IndexOutOfBoundsException"] ++ wsX20 ++ (vx_at0 RX2 143 "java/lang/IndexOutOfBoundsException" ["java/lang/RuntimeException", "java/lang/Exception"]).filter goodWord)
def wsX2_checkPossible : List Cond := .code yX2_checkPossible cX2_checkPossible 1 none :: ([.classLink RX2 147 "java/lang/IllegalStateException", .initialized "java/lang/IllegalStateException"] ++ (vx_at0 RX2 149 "java/lang/IllegalStateException" ["java/lang/RuntimeException", "java/lang/Exception"]).filter goodWord)
def wsX2_bid_r1 : List Cond := [Cond.constant RX2 31 (100000), Cond.fieldLink RX2 15 "NameAuction" "names" "[LNameAuction$Name;", Cond.fieldLink RX2 44 "NameAuction" "day" "I", Cond.fieldLink RX2 51 "NameAuction" "bidsMade" "I", Cond.methodLink RX2 27 yX2_checkIndex, Cond.static yX2_checkIndex, Cond.initialized RX2, Cond.code yX2_checkIndex cX2_checkIndex 2 none, Cond.classLink RX2 141 "java/lang/IndexOutOfBoundsException", Cond.initialized "java/lang/IndexOutOfBoundsException", Cond.methodLink RX2 32 yX2_checkRange, Cond.static yX2_checkRange, Cond.code yX2_checkRange cX2_checkRange 3 none, Cond.classLink RX2 144 "java/lang/IllegalArgumentException", Cond.initialized "java/lang/IllegalArgumentException", Cond.methodLink RX2 40 yX2_checkPossible, Cond.static yX2_checkPossible, Cond.code yX2_checkPossible cX2_checkPossible 1 none, Cond.classLink RX2 147 "java/lang/IllegalStateException", Cond.initialized "java/lang/IllegalStateException", Cond.instanceMethod yX0_beginAuction, Cond.initialized RX0, Cond.selects RX0 yX0_beginAuction yX0_beginAuction, Cond.code yX0_beginAuction cX0_beginAuction 2 none]
def wsX2_bid_r2 : List Cond := [Cond.fieldLink RX0 9 "NameAuction$Name" "phase" "I", Cond.fieldLink RX0 25 "NameAuction$Name" "closing" "I"]
def wsX2_bid : List Cond := .code yX2_bid cX2_bid 5 (some .int) :: ((wsX2_bid_r1 ++ wsX2_bid_r2) ++ wsX20 ++ wsX00 ++ (vx_at0 RX2 143 "java/lang/IndexOutOfBoundsException" ["java/lang/RuntimeException", "java/lang/Exception"]).filter goodWord ++ (vx_at0 RX2 146 "java/lang/IllegalArgumentException" ["java/lang/RuntimeException", "java/lang/Exception"]).filter goodWord ++ (vx_at0 RX2 149 "java/lang/IllegalStateException" ["java/lang/RuntimeException", "java/lang/Exception"]).filter goodWord)
def wsX2_bids : List Cond := .code yX2_bids cX2_bids 2 (some .int) :: ([.fieldLink RX2 15 "NameAuction" "names" "[LNameAuction$Name;", .methodLink RX2 27 yX2_checkIndex, .static yX2_checkIndex, .initialized RX2, .code yX2_checkIndex cX2_checkIndex 2 none, .classLink RX2 141 "java/lang/IndexOutOfBoundsException", .initialized "java/lang/IndexOutOfBoundsException", .instanceMethod yX0_countBids, .initialized RX0, .selects RX0 yX0_countBids yX0_countBids, .code yX0_countBids cX0_countBids 3 (some .int), .fieldLink RX0 18 "NameAuction$Name" "amounts" "[I"] ++ wsX20 ++ wsX00 ++ (vx_at0 RX2 143 "java/lang/IndexOutOfBoundsException" ["java/lang/RuntimeException", "java/lang/Exception"]).filter goodWord)
def wsX2_canPay : List Cond := .code yX2_canPay cX2_canPay 3 (some .boolean) :: ([.fieldLink RX2 9 "NameAuction" "money" "[I"] ++ wsX20)
def wsX2_pay : List Cond := .code yX2_pay cX2_pay 3 none :: ([.fieldLink RX2 9 "NameAuction" "money" "[I", .fieldLink RX2 119 "NameAuction" "paid" "I", .methodLink RX2 77 yX2_canPay, .instanceMethod yX2_canPay, .selects RX2 yX2_canPay yX2_canPay, .initialized RX2, .code yX2_canPay cX2_canPay 3 (some .boolean)] ++ wsX20)
def wsX2_renew_r1 : List Cond := [Cond.fieldLink RX2 15 "NameAuction" "names" "[LNameAuction$Name;", Cond.fieldLink RX2 44 "NameAuction" "day" "I", Cond.methodLink RX2 27 yX2_checkIndex, Cond.static yX2_checkIndex, Cond.initialized RX2, Cond.code yX2_checkIndex cX2_checkIndex 2 none, Cond.classLink RX2 141 "java/lang/IndexOutOfBoundsException", Cond.initialized "java/lang/IndexOutOfBoundsException", Cond.methodLink RX2 32 yX2_checkRange, Cond.static yX2_checkRange, Cond.code yX2_checkRange cX2_checkRange 3 none, Cond.classLink RX2 144 "java/lang/IllegalArgumentException", Cond.initialized "java/lang/IllegalArgumentException", Cond.methodLink RX2 70 yX2_isHeld, Cond.static yX2_isHeld, Cond.code yX2_isHeld cX2_isHeld 1 (some .boolean), Cond.methodLink RX2 77 yX2_canPay, Cond.instanceMethod yX2_canPay, Cond.selects RX2 yX2_canPay yX2_canPay, Cond.code yX2_canPay cX2_canPay 3 (some .boolean), Cond.fieldLink RX2 9 "NameAuction" "money" "[I", Cond.methodLink RX2 40 yX2_checkPossible, Cond.static yX2_checkPossible, Cond.code yX2_checkPossible cX2_checkPossible 1 none]
def wsX2_renew_r2 : List Cond := [Cond.classLink RX2 147 "java/lang/IllegalStateException", Cond.initialized "java/lang/IllegalStateException", Cond.methodLink RX2 81 yX2_pay, Cond.instanceMethod yX2_pay, Cond.selects RX2 yX2_pay yX2_pay, Cond.code yX2_pay cX2_pay 3 none, Cond.fieldLink RX2 119 "NameAuction" "paid" "I"]
def wsX2_renew : List Cond := .code yX2_renew cX2_renew 6 (some .int) :: ((wsX2_renew_r1 ++ wsX2_renew_r2) ++ wsX20 ++ wsX00 ++ (vx_at0 RX2 143 "java/lang/IndexOutOfBoundsException" ["java/lang/RuntimeException", "java/lang/Exception"]).filter goodWord ++ (vx_at0 RX2 146 "java/lang/IllegalArgumentException" ["java/lang/RuntimeException", "java/lang/Exception"]).filter goodWord ++ (vx_at0 RX2 149 "java/lang/IllegalStateException" ["java/lang/RuntimeException", "java/lang/Exception"]).filter goodWord)
def wsX2_redeem_r1 : List Cond := [Cond.fieldLink RX2 15 "NameAuction" "names" "[LNameAuction$Name;", Cond.fieldLink RX2 44 "NameAuction" "day" "I", Cond.methodLink RX2 27 yX2_checkIndex, Cond.static yX2_checkIndex, Cond.initialized RX2, Cond.code yX2_checkIndex cX2_checkIndex 2 none, Cond.classLink RX2 141 "java/lang/IndexOutOfBoundsException", Cond.initialized "java/lang/IndexOutOfBoundsException", Cond.methodLink RX2 77 yX2_canPay, Cond.instanceMethod yX2_canPay, Cond.selects RX2 yX2_canPay yX2_canPay, Cond.code yX2_canPay cX2_canPay 3 (some .boolean), Cond.fieldLink RX2 9 "NameAuction" "money" "[I", Cond.methodLink RX2 40 yX2_checkPossible, Cond.static yX2_checkPossible, Cond.code yX2_checkPossible cX2_checkPossible 1 none, Cond.classLink RX2 147 "java/lang/IllegalStateException", Cond.initialized "java/lang/IllegalStateException", Cond.methodLink RX2 81 yX2_pay, Cond.instanceMethod yX2_pay, Cond.selects RX2 yX2_pay yX2_pay, Cond.code yX2_pay cX2_pay 3 none, Cond.fieldLink RX2 119 "NameAuction" "paid" "I", Cond.instanceMethod yX0_leaseTo]
def wsX2_redeem_r2 : List Cond := [Cond.initialized RX0, Cond.selects RX0 yX0_leaseTo yX0_leaseTo, Cond.code yX0_leaseTo cX0_leaseTo 3 none, Cond.fieldLink RX0 9 "NameAuction$Name" "phase" "I", Cond.fieldLink RX0 15 "NameAuction$Name" "holder" "I", Cond.fieldLink RX0 31 "NameAuction$Name" "end" "I", Cond.fieldLink RX0 34 "NameAuction$Name" "record" "I", Cond.fieldLink RX0 37 "NameAuction$Name" "lifetime" "I", Cond.methodLink RX0 28 yX0_dropBids, Cond.instanceMethod yX0_dropBids, Cond.selects RX0 yX0_dropBids yX0_dropBids, Cond.code yX0_dropBids cX0_dropBids 1 none, Cond.fieldLink RX0 18 "NameAuction$Name" "amounts" "[I", Cond.methodLink RX0 56 yJ7_fill_53178, Cond.static yJ7_fill_53178, Cond.initialized RJ7, Cond.code yJ7_fill_53178 cJ7_fill_53178 4 none]
def wsX2_redeem : List Cond := .code yX2_redeem cX2_redeem 3 (some .int) :: ((wsX2_redeem_r1 ++ wsX2_redeem_r2) ++ wsX20 ++ wsX00 ++ (vx_at0 RX2 143 "java/lang/IndexOutOfBoundsException" ["java/lang/RuntimeException", "java/lang/Exception"]).filter goodWord ++ (vx_at0 RX2 149 "java/lang/IllegalStateException" ["java/lang/RuntimeException", "java/lang/Exception"]).filter goodWord)
def wsX2_setRecord : List Cond := .code yX2_setRecord cX2_setRecord 6 (some .int) :: ([.fieldLink RX2 15 "NameAuction" "names" "[LNameAuction$Name;", .methodLink RX2 27 yX2_checkIndex, .static yX2_checkIndex, .initialized RX2, .code yX2_checkIndex cX2_checkIndex 2 none, .classLink RX2 141 "java/lang/IndexOutOfBoundsException", .initialized "java/lang/IndexOutOfBoundsException", .methodLink RX2 32 yX2_checkRange, .static yX2_checkRange, .code yX2_checkRange cX2_checkRange 3 none, .classLink RX2 144 "java/lang/IllegalArgumentException", .initialized "java/lang/IllegalArgumentException", .methodLink RX2 40 yX2_checkPossible, .static yX2_checkPossible, .code yX2_checkPossible cX2_checkPossible 1 none, .classLink RX2 147 "java/lang/IllegalStateException", .initialized "java/lang/IllegalStateException"] ++ wsX20 ++ wsX00 ++ (vx_at0 RX2 143 "java/lang/IndexOutOfBoundsException" ["java/lang/RuntimeException", "java/lang/Exception"]).filter goodWord ++ (vx_at0 RX2 146 "java/lang/IllegalArgumentException" ["java/lang/RuntimeException", "java/lang/Exception"]).filter goodWord ++ (vx_at0 RX2 149 "java/lang/IllegalStateException" ["java/lang/RuntimeException", "java/lang/Exception"]).filter goodWord)
def wsX2_state : List Cond := .code yX2_state cX2_state 2 (some .int) :: ([.fieldLink RX2 15 "NameAuction" "names" "[LNameAuction$Name;", .methodLink RX2 27 yX2_checkIndex, .static yX2_checkIndex, .initialized RX2, .code yX2_checkIndex cX2_checkIndex 2 none, .classLink RX2 141 "java/lang/IndexOutOfBoundsException", .initialized "java/lang/IndexOutOfBoundsException"] ++ wsX20 ++ wsX00 ++ (vx_at0 RX2 143 "java/lang/IndexOutOfBoundsException" ["java/lang/RuntimeException", "java/lang/Exception"]).filter goodWord)
def wsX2_wordOf : List Cond := .code yX2_wordOf cX2_wordOf 1 (some (.object "java/lang/String")) :: ([])
def wsJ0_coder_7d493 : List Cond := .code yJ0_coder_7d493 cJ0_coder_7d493 1 (some .byte) :: ([.fieldLink RJ0 38 "java/lang/String" "COMPACT_STRINGS" "Z", .fieldLink RJ0 15 "java/lang/String" "coder" "B"])
def wsJ0_length_8abf5 : List Cond := .code yJ0_length_8abf5 cJ0_length_8abf5 1 (some .int) :: ([.fieldLink RJ0 9 "java/lang/String" "value" "[B", .methodLink RJ0 335 yJ0_coder_7d493, .instanceMethod yJ0_coder_7d493, .selects RJ0 yJ0_coder_7d493 yJ0_coder_7d493, .initialized RJ0, .code yJ0_coder_7d493 cJ0_coder_7d493 1 (some .byte), .fieldLink RJ0 38 "java/lang/String" "COMPACT_STRINGS" "Z", .fieldLink RJ0 15 "java/lang/String" "coder" "B"])
def wsJ0_isLatin1_aae02 : List Cond := .code yJ0_isLatin1_aae02 cJ0_isLatin1_aae02 1 (some .boolean) :: ([.fieldLink RJ0 38 "java/lang/String" "COMPACT_STRINGS" "Z", .fieldLink RJ0 15 "java/lang/String" "coder" "B"])
def wsJ3_checkIndex_8e157 : List Cond := .code yJ3_checkIndex_8e157 cJ3_checkIndex_8e157 3 (some .int) :: ([])
def wsJ0_checkIndex_df160 : List Cond := .code yJ0_checkIndex_df160 cJ0_checkIndex_df160 2 none :: ([.fieldLink RJ0 1053 "jdk/internal/util/Preconditions" "SIOOBE_FORMATTER" "Ljava/util/function/BiFunction;", .methodLink RJ0 1059 yJ3_checkIndex_8e157, .static yJ3_checkIndex_8e157, .initialized RJ3, .code yJ3_checkIndex_8e157 cJ3_checkIndex_8e157 3 (some .int)])
def wsJ1_charAt_3b067 : List Cond := .code yJ1_charAt_3b067 cJ1_charAt_3b067 2 (some .char) :: ([.methodLink RJ1 9 yJ0_checkIndex_df160, .static yJ0_checkIndex_df160, .initialized RJ0, .code yJ0_checkIndex_df160 cJ0_checkIndex_df160 2 none, .fieldLink RJ0 1053 "jdk/internal/util/Preconditions" "SIOOBE_FORMATTER" "Ljava/util/function/BiFunction;", .methodLink RJ0 1059 yJ3_checkIndex_8e157, .static yJ3_checkIndex_8e157, .initialized RJ3, .code yJ3_checkIndex_8e157 cJ3_checkIndex_8e157 3 (some .int)])
def wsJ2_length_9d52b : List Cond := .code yJ2_length_9d52b cJ2_length_9d52b 1 (some .int) :: ([])
def wsJ2_checkIndex_2214a : List Cond := .code yJ2_checkIndex_2214a cJ2_checkIndex_2214a 2 none :: ([.methodLink RJ2 48 yJ2_length_9d52b, .static yJ2_length_9d52b, .initialized RJ2, .code yJ2_length_9d52b cJ2_length_9d52b 1 (some .int), .methodLink RJ2 414 yJ0_checkIndex_df160, .static yJ0_checkIndex_df160, .initialized RJ0, .code yJ0_checkIndex_df160 cJ0_checkIndex_df160 2 none, .fieldLink RJ0 1053 "jdk/internal/util/Preconditions" "SIOOBE_FORMATTER" "Ljava/util/function/BiFunction;", .methodLink RJ0 1059 yJ3_checkIndex_8e157, .static yJ3_checkIndex_8e157, .initialized RJ3, .code yJ3_checkIndex_8e157 cJ3_checkIndex_8e157 3 (some .int)])
def wsJ2_getChar_3b067 : List Cond := .code yJ2_getChar_3b067 cJ2_getChar_3b067 2 (some .char) :: ([.fieldLink RJ2 44 "java/lang/StringUTF16" "$assertionsDisabled" "Z", .fieldLink RJ2 59 "java/lang/StringUTF16" "HI_BYTE_SHIFT" "I", .fieldLink RJ2 63 "java/lang/StringUTF16" "LO_BYTE_SHIFT" "I", .methodLink RJ2 48 yJ2_length_9d52b, .static yJ2_length_9d52b, .initialized RJ2, .code yJ2_length_9d52b cJ2_length_9d52b 1 (some .int)])
def wsJ2_charAt_3b067 : List Cond := .code yJ2_charAt_3b067 cJ2_charAt_3b067 2 (some .char) :: ([.methodLink RJ2 67 yJ2_checkIndex_2214a, .static yJ2_checkIndex_2214a, .initialized RJ2, .code yJ2_checkIndex_2214a cJ2_checkIndex_2214a 2 none, .methodLink RJ2 48 yJ2_length_9d52b, .static yJ2_length_9d52b, .code yJ2_length_9d52b cJ2_length_9d52b 1 (some .int), .methodLink RJ2 414 yJ0_checkIndex_df160, .static yJ0_checkIndex_df160, .initialized RJ0, .code yJ0_checkIndex_df160 cJ0_checkIndex_df160 2 none, .fieldLink RJ0 1053 "jdk/internal/util/Preconditions" "SIOOBE_FORMATTER" "Ljava/util/function/BiFunction;", .methodLink RJ0 1059 yJ3_checkIndex_8e157, .static yJ3_checkIndex_8e157, .initialized RJ3, .code yJ3_checkIndex_8e157 cJ3_checkIndex_8e157 3 (some .int), .methodLink RJ2 71 yJ2_getChar_3b067, .static yJ2_getChar_3b067, .code yJ2_getChar_3b067 cJ2_getChar_3b067 2 (some .char), .fieldLink RJ2 44 "java/lang/StringUTF16" "$assertionsDisabled" "Z", .fieldLink RJ2 59 "java/lang/StringUTF16" "HI_BYTE_SHIFT" "I", .fieldLink RJ2 63 "java/lang/StringUTF16" "LO_BYTE_SHIFT" "I"])
def wsJ0_charAt_5068e_r1 : List Cond := [Cond.fieldLink RJ0 9 "java/lang/String" "value" "[B", Cond.methodLink RJ0 492 yJ0_isLatin1_aae02, Cond.instanceMethod yJ0_isLatin1_aae02, Cond.selects RJ0 yJ0_isLatin1_aae02 yJ0_isLatin1_aae02, Cond.initialized RJ0, Cond.code yJ0_isLatin1_aae02 cJ0_isLatin1_aae02 1 (some .boolean), Cond.fieldLink RJ0 38 "java/lang/String" "COMPACT_STRINGS" "Z", Cond.fieldLink RJ0 15 "java/lang/String" "coder" "B", Cond.methodLink RJ0 495 yJ1_charAt_3b067, Cond.static yJ1_charAt_3b067, Cond.initialized RJ1, Cond.code yJ1_charAt_3b067 cJ1_charAt_3b067 2 (some .char), Cond.methodLink RJ1 9 yJ0_checkIndex_df160, Cond.static yJ0_checkIndex_df160, Cond.code yJ0_checkIndex_df160 cJ0_checkIndex_df160 2 none, Cond.fieldLink RJ0 1053 "jdk/internal/util/Preconditions" "SIOOBE_FORMATTER" "Ljava/util/function/BiFunction;", Cond.methodLink RJ0 1059 yJ3_checkIndex_8e157, Cond.static yJ3_checkIndex_8e157, Cond.initialized RJ3, Cond.code yJ3_checkIndex_8e157 cJ3_checkIndex_8e157 3 (some .int), Cond.methodLink RJ0 498 yJ2_charAt_3b067, Cond.static yJ2_charAt_3b067, Cond.initialized RJ2, Cond.code yJ2_charAt_3b067 cJ2_charAt_3b067 2 (some .char)]
def wsJ0_charAt_5068e_r2 : List Cond := [Cond.methodLink RJ2 67 yJ2_checkIndex_2214a, Cond.static yJ2_checkIndex_2214a, Cond.code yJ2_checkIndex_2214a cJ2_checkIndex_2214a 2 none, Cond.methodLink RJ2 48 yJ2_length_9d52b, Cond.static yJ2_length_9d52b, Cond.code yJ2_length_9d52b cJ2_length_9d52b 1 (some .int), Cond.methodLink RJ2 414 yJ0_checkIndex_df160, Cond.methodLink RJ2 71 yJ2_getChar_3b067, Cond.static yJ2_getChar_3b067, Cond.code yJ2_getChar_3b067 cJ2_getChar_3b067 2 (some .char), Cond.fieldLink RJ2 44 "java/lang/StringUTF16" "$assertionsDisabled" "Z", Cond.fieldLink RJ2 59 "java/lang/StringUTF16" "HI_BYTE_SHIFT" "I", Cond.fieldLink RJ2 63 "java/lang/StringUTF16" "LO_BYTE_SHIFT" "I"]
def wsJ0_charAt_5068e : List Cond := .code yJ0_charAt_5068e cJ0_charAt_5068e 2 (some .char) :: ((wsJ0_charAt_5068e_r1 ++ wsJ0_charAt_5068e_r2))
def wsX2_sign_r1 : List Cond := [Cond.fieldLink RX2 15 "NameAuction" "names" "[LNameAuction$Name;", Cond.methodLink RX2 27 yX2_checkIndex, Cond.static yX2_checkIndex, Cond.initialized RX2, Cond.code yX2_checkIndex cX2_checkIndex 2 none, Cond.classLink RX2 141 "java/lang/IndexOutOfBoundsException", Cond.initialized "java/lang/IndexOutOfBoundsException", Cond.methodLink RX2 93 yX2_wordOf, Cond.static yX2_wordOf, Cond.code yX2_wordOf cX2_wordOf 1 (some (.object "java/lang/String")), Cond.methodLink RX2 97 yJ0_length_8abf5, Cond.instanceMethod yJ0_length_8abf5, Cond.selects RJ0 yJ0_length_8abf5 yJ0_length_8abf5, Cond.initialized RJ0, Cond.code yJ0_length_8abf5 cJ0_length_8abf5 1 (some .int), Cond.fieldLink RJ0 9 "java/lang/String" "value" "[B", Cond.methodLink RJ0 335 yJ0_coder_7d493, Cond.instanceMethod yJ0_coder_7d493, Cond.selects RJ0 yJ0_coder_7d493 yJ0_coder_7d493, Cond.code yJ0_coder_7d493 cJ0_coder_7d493 1 (some .byte), Cond.fieldLink RJ0 38 "java/lang/String" "COMPACT_STRINGS" "Z", Cond.fieldLink RJ0 15 "java/lang/String" "coder" "B", Cond.methodLink RX2 102 yJ0_charAt_5068e, Cond.instanceMethod yJ0_charAt_5068e]
def wsX2_sign_r2 : List Cond := [Cond.selects RJ0 yJ0_charAt_5068e yJ0_charAt_5068e, Cond.code yJ0_charAt_5068e cJ0_charAt_5068e 2 (some .char), Cond.methodLink RJ0 492 yJ0_isLatin1_aae02, Cond.instanceMethod yJ0_isLatin1_aae02, Cond.selects RJ0 yJ0_isLatin1_aae02 yJ0_isLatin1_aae02, Cond.code yJ0_isLatin1_aae02 cJ0_isLatin1_aae02 1 (some .boolean), Cond.methodLink RJ0 495 yJ1_charAt_3b067, Cond.static yJ1_charAt_3b067, Cond.initialized RJ1, Cond.code yJ1_charAt_3b067 cJ1_charAt_3b067 2 (some .char), Cond.methodLink RJ1 9 yJ0_checkIndex_df160, Cond.static yJ0_checkIndex_df160, Cond.code yJ0_checkIndex_df160 cJ0_checkIndex_df160 2 none, Cond.fieldLink RJ0 1053 "jdk/internal/util/Preconditions" "SIOOBE_FORMATTER" "Ljava/util/function/BiFunction;", Cond.methodLink RJ0 1059 yJ3_checkIndex_8e157, Cond.static yJ3_checkIndex_8e157, Cond.initialized RJ3, Cond.code yJ3_checkIndex_8e157 cJ3_checkIndex_8e157 3 (some .int), Cond.methodLink RJ0 498 yJ2_charAt_3b067, Cond.static yJ2_charAt_3b067, Cond.initialized RJ2, Cond.code yJ2_charAt_3b067 cJ2_charAt_3b067 2 (some .char), Cond.methodLink RJ2 67 yJ2_checkIndex_2214a, Cond.static yJ2_checkIndex_2214a]
def wsX2_sign_r3 : List Cond := [Cond.code yJ2_checkIndex_2214a cJ2_checkIndex_2214a 2 none, Cond.methodLink RJ2 48 yJ2_length_9d52b, Cond.static yJ2_length_9d52b, Cond.code yJ2_length_9d52b cJ2_length_9d52b 1 (some .int), Cond.methodLink RJ2 414 yJ0_checkIndex_df160, Cond.methodLink RJ2 71 yJ2_getChar_3b067, Cond.static yJ2_getChar_3b067, Cond.code yJ2_getChar_3b067 cJ2_getChar_3b067 2 (some .char), Cond.fieldLink RJ2 44 "java/lang/StringUTF16" "$assertionsDisabled" "Z", Cond.fieldLink RJ2 59 "java/lang/StringUTF16" "HI_BYTE_SHIFT" "I", Cond.fieldLink RJ2 63 "java/lang/StringUTF16" "LO_BYTE_SHIFT" "I"]
def wsX2_sign : List Cond := .code yX2_sign cX2_sign 6 (some .char) :: ((wsX2_sign_r1 ++ (wsX2_sign_r2 ++ wsX2_sign_r3)) ++ wsX20 ++ wsX00 ++ (vx_at0 RX2 143 "java/lang/IndexOutOfBoundsException" ["java/lang/RuntimeException", "java/lang/Exception"]).filter goodWord)
def wsX2_owner : List Cond := .code yX2_owner cX2_owner 2 (some .int) :: ([.fieldLink RX2 15 "NameAuction" "names" "[LNameAuction$Name;", .methodLink RX2 27 yX2_checkIndex, .static yX2_checkIndex, .initialized RX2, .code yX2_checkIndex cX2_checkIndex 2 none, .classLink RX2 141 "java/lang/IndexOutOfBoundsException", .initialized "java/lang/IndexOutOfBoundsException"] ++ wsX20 ++ wsX00 ++ (vx_at0 RX2 143 "java/lang/IndexOutOfBoundsException" ["java/lang/RuntimeException", "java/lang/Exception"]).filter goodWord)
def wsX2_next : List Cond := .code yX2_next cX2_next 2 (some .int) :: ([.fieldLink RX2 15 "NameAuction" "names" "[LNameAuction$Name;", .methodLink RX2 27 yX2_checkIndex, .static yX2_checkIndex, .initialized RX2, .code yX2_checkIndex cX2_checkIndex 2 none, .classLink RX2 141 "java/lang/IndexOutOfBoundsException", .initialized "java/lang/IndexOutOfBoundsException", .instanceMethod yX0_dayOfChange, .initialized RX0, .selects RX0 yX0_dayOfChange yX0_dayOfChange, .code yX0_dayOfChange cX0_dayOfChange 1 (some .int), .fieldLink RX0 9 "NameAuction$Name" "phase" "I", .fieldLink RX0 25 "NameAuction$Name" "closing" "I", .fieldLink RX0 31 "NameAuction$Name" "end" "I"] ++ wsX20 ++ wsX00 ++ (vx_at0 RX2 143 "java/lang/IndexOutOfBoundsException" ["java/lang/RuntimeException", "java/lang/Exception"]).filter goodWord)
def wsX2_dispute_r1 : List Cond := [Cond.fieldLink RX2 15 "NameAuction" "names" "[LNameAuction$Name;", Cond.fieldLink RX2 44 "NameAuction" "day" "I", Cond.methodLink RX2 27 yX2_checkIndex, Cond.static yX2_checkIndex, Cond.initialized RX2, Cond.code yX2_checkIndex cX2_checkIndex 2 none, Cond.classLink RX2 141 "java/lang/IndexOutOfBoundsException", Cond.initialized "java/lang/IndexOutOfBoundsException", Cond.methodLink RX2 70 yX2_isHeld, Cond.static yX2_isHeld, Cond.code yX2_isHeld cX2_isHeld 1 (some .boolean), Cond.methodLink RX2 40 yX2_checkPossible, Cond.static yX2_checkPossible, Cond.code yX2_checkPossible cX2_checkPossible 1 none, Cond.classLink RX2 147 "java/lang/IllegalStateException", Cond.initialized "java/lang/IllegalStateException", Cond.instanceMethod yX0_freeze, Cond.initialized RX0, Cond.selects RX0 yX0_freeze yX0_freeze, Cond.code yX0_freeze cX0_freeze 3 none, Cond.fieldLink RX0 9 "NameAuction$Name" "phase" "I", Cond.fieldLink RX0 43 "NameAuction$Name" "phaseBefore" "I", Cond.fieldLink RX0 46 "NameAuction$Name" "challenger" "I", Cond.fieldLink RX0 49 "NameAuction$Name" "frozenOn" "I"]
def wsX2_dispute_r2 : List Cond := [Cond.methodLink RX0 28 yX0_dropBids, Cond.instanceMethod yX0_dropBids, Cond.selects RX0 yX0_dropBids yX0_dropBids, Cond.code yX0_dropBids cX0_dropBids 1 none, Cond.fieldLink RX0 18 "NameAuction$Name" "amounts" "[I", Cond.methodLink RX0 56 yJ7_fill_53178, Cond.static yJ7_fill_53178, Cond.initialized RJ7, Cond.code yJ7_fill_53178 cJ7_fill_53178 4 none]
def wsX2_dispute : List Cond := .code yX2_dispute cX2_dispute 5 (some .int) :: ((wsX2_dispute_r1 ++ wsX2_dispute_r2) ++ wsX20 ++ wsX00 ++ (vx_at0 RX2 143 "java/lang/IndexOutOfBoundsException" ["java/lang/RuntimeException", "java/lang/Exception"]).filter goodWord ++ (vx_at0 RX2 149 "java/lang/IllegalStateException" ["java/lang/RuntimeException", "java/lang/Exception"]).filter goodWord)
def wsX2_decide_r1 : List Cond := [Cond.fieldLink RX2 15 "NameAuction" "names" "[LNameAuction$Name;", Cond.fieldLink RX2 44 "NameAuction" "day" "I", Cond.methodLink RX2 27 yX2_checkIndex, Cond.static yX2_checkIndex, Cond.initialized RX2, Cond.code yX2_checkIndex cX2_checkIndex 2 none, Cond.classLink RX2 141 "java/lang/IndexOutOfBoundsException", Cond.initialized "java/lang/IndexOutOfBoundsException", Cond.methodLink RX2 40 yX2_checkPossible, Cond.static yX2_checkPossible, Cond.code yX2_checkPossible cX2_checkPossible 1 none, Cond.classLink RX2 147 "java/lang/IllegalStateException", Cond.initialized "java/lang/IllegalStateException", Cond.instanceMethod yX0_thaw, Cond.initialized RX0, Cond.selects RX0 yX0_thaw yX0_thaw, Cond.code yX0_thaw cX0_thaw 3 none, Cond.fieldLink RX0 43 "NameAuction$Name" "phaseBefore" "I", Cond.fieldLink RX0 9 "NameAuction$Name" "phase" "I", Cond.fieldLink RX0 31 "NameAuction$Name" "end" "I", Cond.fieldLink RX0 49 "NameAuction$Name" "frozenOn" "I", Cond.fieldLink RX0 46 "NameAuction$Name" "challenger" "I", Cond.fieldLink RX0 15 "NameAuction$Name" "holder" "I", Cond.methodLink RX0 52 yX0_leaseTo]
def wsX2_decide_r2 : List Cond := [Cond.instanceMethod yX0_leaseTo, Cond.selects RX0 yX0_leaseTo yX0_leaseTo, Cond.code yX0_leaseTo cX0_leaseTo 3 none, Cond.fieldLink RX0 34 "NameAuction$Name" "record" "I", Cond.fieldLink RX0 37 "NameAuction$Name" "lifetime" "I", Cond.methodLink RX0 28 yX0_dropBids, Cond.instanceMethod yX0_dropBids, Cond.selects RX0 yX0_dropBids yX0_dropBids, Cond.code yX0_dropBids cX0_dropBids 1 none, Cond.fieldLink RX0 18 "NameAuction$Name" "amounts" "[I", Cond.methodLink RX0 56 yJ7_fill_53178, Cond.static yJ7_fill_53178, Cond.initialized RJ7, Cond.code yJ7_fill_53178 cJ7_fill_53178 4 none, Cond.methodLink RX0 40 yX0_release, Cond.instanceMethod yX0_release, Cond.selects RX0 yX0_release yX0_release, Cond.code yX0_release cX0_release 1 none]
def wsX2_decide : List Cond := .code yX2_decide cX2_decide 4 (some .int) :: ((wsX2_decide_r1 ++ wsX2_decide_r2) ++ wsX20 ++ wsX00 ++ (vx_at0 RX2 143 "java/lang/IndexOutOfBoundsException" ["java/lang/RuntimeException", "java/lang/Exception"]).filter goodWord ++ (vx_at0 RX2 149 "java/lang/IllegalStateException" ["java/lang/RuntimeException", "java/lang/Exception"]).filter goodWord)
def wsX2_bestBidder : List Cond := .code yX2_bestBidder cX2_bestBidder 6 (some .int) :: ([.methodLink RX2 77 yX2_canPay, .instanceMethod yX2_canPay, .selects RX2 yX2_canPay yX2_canPay, .initialized RX2, .code yX2_canPay cX2_canPay 3 (some .boolean), .fieldLink RX2 9 "NameAuction" "money" "[I", .instanceMethod yX0_isAhead, .initialized RX0, .selects RX0 yX0_isAhead yX0_isAhead, .code yX0_isAhead cX0_isAhead 3 (some .boolean), .fieldLink RX0 18 "NameAuction$Name" "amounts" "[I", .fieldLink RX0 22 "NameAuction$Name" "turns" "[I"] ++ wsX00 ++ wsX20)
def wsX2_closeAuction_r1 : List Cond := [Cond.fieldLink RX2 44 "NameAuction" "day" "I", Cond.methodLink RX2 169 yX2_bestBidder, Cond.instanceMethod yX2_bestBidder, Cond.selects RX2 yX2_bestBidder yX2_bestBidder, Cond.initialized RX2, Cond.code yX2_bestBidder cX2_bestBidder 6 (some .int), Cond.methodLink RX2 77 yX2_canPay, Cond.instanceMethod yX2_canPay, Cond.selects RX2 yX2_canPay yX2_canPay, Cond.code yX2_canPay cX2_canPay 3 (some .boolean), Cond.fieldLink RX2 9 "NameAuction" "money" "[I", Cond.instanceMethod yX0_isAhead, Cond.initialized RX0, Cond.selects RX0 yX0_isAhead yX0_isAhead, Cond.code yX0_isAhead cX0_isAhead 3 (some .boolean), Cond.fieldLink RX0 18 "NameAuction$Name" "amounts" "[I", Cond.fieldLink RX0 22 "NameAuction$Name" "turns" "[I", Cond.instanceMethod yX0_release, Cond.selects RX0 yX0_release yX0_release, Cond.code yX0_release cX0_release 1 none, Cond.fieldLink RX0 9 "NameAuction$Name" "phase" "I", Cond.fieldLink RX0 15 "NameAuction$Name" "holder" "I", Cond.methodLink RX0 28 yX0_dropBids, Cond.instanceMethod yX0_dropBids]
def wsX2_closeAuction_r2 : List Cond := [Cond.selects RX0 yX0_dropBids yX0_dropBids, Cond.code yX0_dropBids cX0_dropBids 1 none, Cond.methodLink RX0 56 yJ7_fill_53178, Cond.static yJ7_fill_53178, Cond.initialized RJ7, Cond.code yJ7_fill_53178 cJ7_fill_53178 4 none, Cond.methodLink RX2 81 yX2_pay, Cond.instanceMethod yX2_pay, Cond.selects RX2 yX2_pay yX2_pay, Cond.code yX2_pay cX2_pay 3 none, Cond.fieldLink RX2 119 "NameAuction" "paid" "I", Cond.instanceMethod yX0_leaseTo, Cond.selects RX0 yX0_leaseTo yX0_leaseTo, Cond.code yX0_leaseTo cX0_leaseTo 3 none, Cond.fieldLink RX0 31 "NameAuction$Name" "end" "I", Cond.fieldLink RX0 34 "NameAuction$Name" "record" "I", Cond.fieldLink RX0 37 "NameAuction$Name" "lifetime" "I"]
def wsX2_closeAuction : List Cond := .code yX2_closeAuction cX2_closeAuction 4 (some .boolean) :: ((wsX2_closeAuction_r1 ++ wsX2_closeAuction_r2) ++ wsX00 ++ wsX20)
def wsX2_changeNames_r1 : List Cond := [Cond.fieldLink RX2 15 "NameAuction" "names" "[LNameAuction$Name;", Cond.fieldLink RX2 44 "NameAuction" "day" "I", Cond.instanceMethod yX0_dayOfChange, Cond.initialized RX0, Cond.selects RX0 yX0_dayOfChange yX0_dayOfChange, Cond.code yX0_dayOfChange cX0_dayOfChange 1 (some .int), Cond.fieldLink RX0 9 "NameAuction$Name" "phase" "I", Cond.fieldLink RX0 25 "NameAuction$Name" "closing" "I", Cond.fieldLink RX0 31 "NameAuction$Name" "end" "I", Cond.instanceMethod yX0_goOn, Cond.selects RX0 yX0_goOn yX0_goOn, Cond.code yX0_goOn cX0_goOn 1 none, Cond.methodLink RX0 40 yX0_release, Cond.instanceMethod yX0_release, Cond.selects RX0 yX0_release yX0_release, Cond.code yX0_release cX0_release 1 none, Cond.fieldLink RX0 15 "NameAuction$Name" "holder" "I", Cond.methodLink RX0 28 yX0_dropBids, Cond.instanceMethod yX0_dropBids, Cond.selects RX0 yX0_dropBids yX0_dropBids, Cond.code yX0_dropBids cX0_dropBids 1 none, Cond.fieldLink RX0 18 "NameAuction$Name" "amounts" "[I", Cond.methodLink RX0 56 yJ7_fill_53178, Cond.static yJ7_fill_53178]
def wsX2_changeNames_r2 : List Cond := [Cond.initialized RJ7, Cond.code yJ7_fill_53178 cJ7_fill_53178 4 none, Cond.methodLink RX2 165 yX2_closeAuction, Cond.instanceMethod yX2_closeAuction, Cond.selects RX2 yX2_closeAuction yX2_closeAuction, Cond.initialized RX2, Cond.code yX2_closeAuction cX2_closeAuction 4 (some .boolean), Cond.methodLink RX2 169 yX2_bestBidder, Cond.instanceMethod yX2_bestBidder, Cond.selects RX2 yX2_bestBidder yX2_bestBidder, Cond.code yX2_bestBidder cX2_bestBidder 6 (some .int), Cond.methodLink RX2 77 yX2_canPay, Cond.instanceMethod yX2_canPay, Cond.selects RX2 yX2_canPay yX2_canPay, Cond.code yX2_canPay cX2_canPay 3 (some .boolean), Cond.fieldLink RX2 9 "NameAuction" "money" "[I", Cond.instanceMethod yX0_isAhead, Cond.selects RX0 yX0_isAhead yX0_isAhead, Cond.code yX0_isAhead cX0_isAhead 3 (some .boolean), Cond.fieldLink RX0 22 "NameAuction$Name" "turns" "[I", Cond.methodLink RX2 81 yX2_pay, Cond.instanceMethod yX2_pay, Cond.selects RX2 yX2_pay yX2_pay, Cond.code yX2_pay cX2_pay 3 none]
def wsX2_changeNames_r3 : List Cond := [Cond.fieldLink RX2 119 "NameAuction" "paid" "I", Cond.instanceMethod yX0_leaseTo, Cond.selects RX0 yX0_leaseTo yX0_leaseTo, Cond.code yX0_leaseTo cX0_leaseTo 3 none, Cond.fieldLink RX0 34 "NameAuction$Name" "record" "I", Cond.fieldLink RX0 37 "NameAuction$Name" "lifetime" "I"]
def wsX2_changeNames : List Cond := .code yX2_changeNames cX2_changeNames 4 (some .int) :: ((wsX2_changeNames_r1 ++ (wsX2_changeNames_r2 ++ wsX2_changeNames_r3)) ++ wsX20 ++ wsX00)
def wsX2_pass_r1 : List Cond := [Cond.fieldLink RX2 44 "NameAuction" "day" "I", Cond.methodLink RX2 32 yX2_checkRange, Cond.static yX2_checkRange, Cond.initialized RX2, Cond.code yX2_checkRange cX2_checkRange 3 none, Cond.classLink RX2 144 "java/lang/IllegalArgumentException", Cond.initialized "java/lang/IllegalArgumentException", Cond.methodLink RX2 116 yX2_changeNames, Cond.instanceMethod yX2_changeNames, Cond.selects RX2 yX2_changeNames yX2_changeNames, Cond.code yX2_changeNames cX2_changeNames 4 (some .int), Cond.fieldLink RX2 15 "NameAuction" "names" "[LNameAuction$Name;", Cond.instanceMethod yX0_dayOfChange, Cond.initialized RX0, Cond.selects RX0 yX0_dayOfChange yX0_dayOfChange, Cond.code yX0_dayOfChange cX0_dayOfChange 1 (some .int), Cond.fieldLink RX0 9 "NameAuction$Name" "phase" "I", Cond.fieldLink RX0 25 "NameAuction$Name" "closing" "I", Cond.fieldLink RX0 31 "NameAuction$Name" "end" "I", Cond.instanceMethod yX0_goOn, Cond.selects RX0 yX0_goOn yX0_goOn, Cond.code yX0_goOn cX0_goOn 1 none, Cond.methodLink RX0 40 yX0_release, Cond.instanceMethod yX0_release]
def wsX2_pass_r2 : List Cond := [Cond.selects RX0 yX0_release yX0_release, Cond.code yX0_release cX0_release 1 none, Cond.fieldLink RX0 15 "NameAuction$Name" "holder" "I", Cond.methodLink RX0 28 yX0_dropBids, Cond.instanceMethod yX0_dropBids, Cond.selects RX0 yX0_dropBids yX0_dropBids, Cond.code yX0_dropBids cX0_dropBids 1 none, Cond.fieldLink RX0 18 "NameAuction$Name" "amounts" "[I", Cond.methodLink RX0 56 yJ7_fill_53178, Cond.static yJ7_fill_53178, Cond.initialized RJ7, Cond.code yJ7_fill_53178 cJ7_fill_53178 4 none, Cond.methodLink RX2 165 yX2_closeAuction, Cond.instanceMethod yX2_closeAuction, Cond.selects RX2 yX2_closeAuction yX2_closeAuction, Cond.code yX2_closeAuction cX2_closeAuction 4 (some .boolean), Cond.methodLink RX2 169 yX2_bestBidder, Cond.instanceMethod yX2_bestBidder, Cond.selects RX2 yX2_bestBidder yX2_bestBidder, Cond.code yX2_bestBidder cX2_bestBidder 6 (some .int), Cond.methodLink RX2 77 yX2_canPay, Cond.instanceMethod yX2_canPay, Cond.selects RX2 yX2_canPay yX2_canPay, Cond.code yX2_canPay cX2_canPay 3 (some .boolean)]
def wsX2_pass_r3 : List Cond := [Cond.fieldLink RX2 9 "NameAuction" "money" "[I", Cond.instanceMethod yX0_isAhead, Cond.selects RX0 yX0_isAhead yX0_isAhead, Cond.code yX0_isAhead cX0_isAhead 3 (some .boolean), Cond.fieldLink RX0 22 "NameAuction$Name" "turns" "[I", Cond.methodLink RX2 81 yX2_pay, Cond.instanceMethod yX2_pay, Cond.selects RX2 yX2_pay yX2_pay, Cond.code yX2_pay cX2_pay 3 none, Cond.fieldLink RX2 119 "NameAuction" "paid" "I", Cond.instanceMethod yX0_leaseTo, Cond.selects RX0 yX0_leaseTo yX0_leaseTo, Cond.code yX0_leaseTo cX0_leaseTo 3 none, Cond.fieldLink RX0 34 "NameAuction$Name" "record" "I", Cond.fieldLink RX0 37 "NameAuction$Name" "lifetime" "I"]
def wsX2_pass : List Cond := .code yX2_pass cX2_pass 4 (some .int) :: ((wsX2_pass_r1 ++ (wsX2_pass_r2 ++ wsX2_pass_r3)) ++ wsX20 ++ wsX00 ++ (vx_at0 RX2 146 "java/lang/IllegalArgumentException" ["java/lang/RuntimeException", "java/lang/Exception"]).filter goodWord)
def wsX2_today : List Cond := .code yX2_today cX2_today 1 (some .int) :: ([.fieldLink RX2 44 "NameAuction" "day" "I"] ++ wsX20)
def wsX2_takings : List Cond := .code yX2_takings cX2_takings 1 (some .int) :: ([.fieldLink RX2 119 "NameAuction" "paid" "I"] ++ wsX20)
def wsX2_lookUp_r1 : List Cond := [Cond.fieldLink RX2 21 "NameAuction" "resolvers" "[LNameAuction$Resolver;", Cond.fieldLink RX2 44 "NameAuction" "day" "I", Cond.fieldLink RX2 15 "NameAuction" "names" "[LNameAuction$Name;", Cond.methodLink RX2 27 yX2_checkIndex, Cond.static yX2_checkIndex, Cond.initialized RX2, Cond.code yX2_checkIndex cX2_checkIndex 2 none, Cond.classLink RX2 141 "java/lang/IndexOutOfBoundsException", Cond.initialized "java/lang/IndexOutOfBoundsException", Cond.instanceMethod yX1_isFresh, Cond.initialized RX1, Cond.selects RX1 yX1_isFresh yX1_isFresh, Cond.code yX1_isFresh cX1_isFresh 3 (some .boolean), Cond.fieldLink RX1 9 "NameAuction$Resolver" "kept" "[Z", Cond.fieldLink RX1 22 "NameAuction$Resolver" "takenOn" "[I", Cond.fieldLink RX1 19 "NameAuction$Resolver" "lifetimes" "[I", Cond.instanceMethod yX0_answer, Cond.initialized RX0, Cond.selects RX0 yX0_answer yX0_answer, Cond.code yX0_answer cX0_answer 1 (some .int), Cond.fieldLink RX0 34 "NameAuction$Name" "record" "I", Cond.methodLink RX0 66 yX0_hasRecord, Cond.instanceMethod yX0_hasRecord, Cond.selects RX0 yX0_hasRecord yX0_hasRecord]
def wsX2_lookUp_r2 : List Cond := [Cond.code yX0_hasRecord cX0_hasRecord 1 (some .boolean), Cond.fieldLink RX0 9 "NameAuction$Name" "phase" "I", Cond.fieldLink RX0 43 "NameAuction$Name" "phaseBefore" "I", Cond.static yX2_isHeld, Cond.code yX2_isHeld cX2_isHeld 1 (some .boolean), Cond.instanceMethod yX0_answerLifetime, Cond.selects RX0 yX0_answerLifetime yX0_answerLifetime, Cond.code yX0_answerLifetime cX0_answerLifetime 1 (some .int), Cond.fieldLink RX0 37 "NameAuction$Name" "lifetime" "I", Cond.instanceMethod yX1_keep, Cond.selects RX1 yX1_keep yX1_keep, Cond.code yX1_keep cX1_keep 5 none, Cond.fieldLink RX1 15 "NameAuction$Resolver" "answers" "[I"]
def wsX2_lookUp : List Cond := .code yX2_lookUp cX2_lookUp 4 (some .int) :: ((wsX2_lookUp_r1 ++ wsX2_lookUp_r2) ++ wsX20 ++ wsX10 ++ wsX00 ++ (vx_at0 RX2 143 "java/lang/IndexOutOfBoundsException" ["java/lang/RuntimeException", "java/lang/Exception"]).filter goodWord)
def wsX2_isStale_r1 : List Cond := [Cond.fieldLink RX2 21 "NameAuction" "resolvers" "[LNameAuction$Resolver;", Cond.fieldLink RX2 44 "NameAuction" "day" "I", Cond.fieldLink RX2 15 "NameAuction" "names" "[LNameAuction$Name;", Cond.methodLink RX2 27 yX2_checkIndex, Cond.static yX2_checkIndex, Cond.initialized RX2, Cond.code yX2_checkIndex cX2_checkIndex 2 none, Cond.classLink RX2 141 "java/lang/IndexOutOfBoundsException", Cond.initialized "java/lang/IndexOutOfBoundsException", Cond.instanceMethod yX1_isFresh, Cond.initialized RX1, Cond.selects RX1 yX1_isFresh yX1_isFresh, Cond.code yX1_isFresh cX1_isFresh 3 (some .boolean), Cond.fieldLink RX1 9 "NameAuction$Resolver" "kept" "[Z", Cond.fieldLink RX1 22 "NameAuction$Resolver" "takenOn" "[I", Cond.fieldLink RX1 19 "NameAuction$Resolver" "lifetimes" "[I", Cond.instanceMethod yX0_answer, Cond.initialized RX0, Cond.selects RX0 yX0_answer yX0_answer, Cond.code yX0_answer cX0_answer 1 (some .int), Cond.fieldLink RX0 34 "NameAuction$Name" "record" "I", Cond.methodLink RX0 66 yX0_hasRecord, Cond.instanceMethod yX0_hasRecord, Cond.selects RX0 yX0_hasRecord yX0_hasRecord]
def wsX2_isStale_r2 : List Cond := [Cond.code yX0_hasRecord cX0_hasRecord 1 (some .boolean), Cond.fieldLink RX0 9 "NameAuction$Name" "phase" "I", Cond.fieldLink RX0 43 "NameAuction$Name" "phaseBefore" "I", Cond.static yX2_isHeld, Cond.code yX2_isHeld cX2_isHeld 1 (some .boolean)]
def wsX2_isStale : List Cond := .code yX2_isStale cX2_isStale 4 (some .boolean) :: ((wsX2_isStale_r1 ++ wsX2_isStale_r2) ++ wsX20 ++ wsX10 ++ wsX00 ++ (vx_at0 RX2 143 "java/lang/IndexOutOfBoundsException" ["java/lang/RuntimeException", "java/lang/Exception"]).filter goodWord)
def wsX2_flush : List Cond := .code yX2_flush cX2_flush 2 (some .int) :: ([.fieldLink RX2 21 "NameAuction" "resolvers" "[LNameAuction$Resolver;", .methodLink RX2 27 yX2_checkIndex, .static yX2_checkIndex, .initialized RX2, .code yX2_checkIndex cX2_checkIndex 2 none, .classLink RX2 141 "java/lang/IndexOutOfBoundsException", .initialized "java/lang/IndexOutOfBoundsException", .instanceMethod yX1_forgetAll, .initialized RX1, .selects RX1 yX1_forgetAll yX1_forgetAll, .code yX1_forgetAll cX1_forgetAll 3 (some .int), .fieldLink RX1 9 "NameAuction$Resolver" "kept" "[Z"] ++ wsX20 ++ wsX10 ++ (vx_at0 RX2 143 "java/lang/IndexOutOfBoundsException" ["java/lang/RuntimeException", "java/lang/Exception"]).filter goodWord)
def wsX3_init : List Cond := .code yX3_init cX3_init 2 none :: ([.methodLink RX3 1 objectInit, .instanceMethod objectInit, .code objectInit ⟨#[0xb1]⟩ 1 none, .arrayClass .int, .fieldLink RX3 7 "NameAuctionModel" "funds" "[I", .fieldLink RX3 13 "NameAuctionModel" "state" "[I", .fieldLink RX3 16 "NameAuctionModel" "owner" "[I", .fieldLink RX3 19 "NameAuctionModel" "day" "[I", .fieldLink RX3 22 "NameAuctionModel" "record" "[I", .fieldLink RX3 25 "NameAuctionModel" "lifetime" "[I", .fieldLink RX3 28 "NameAuctionModel" "challenger" "[I", .fieldLink RX3 31 "NameAuctionModel" "since" "[I", .fieldLink RX3 34 "NameAuctionModel" "before" "[I", .fieldLink RX3 37 "NameAuctionModel" "amount" "[I", .fieldLink RX3 40 "NameAuctionModel" "came" "[I", .fieldLink RX3 43 "NameAuctionModel" "taken" "[I", .fieldLink RX3 46 "NameAuctionModel" "answer" "[I", .fieldLink RX3 49 "NameAuctionModel" "lives" "[I"] ++ wsX30)
def wsX3_thrown : List Cond := .code yX3_thrown cX3_thrown 1 (some .int) :: ([.fieldLink RX3 52 "NameAuctionModel" "thrown" "I"] ++ wsX30)
def wsX3_fails : List Cond := .code yX3_fails cX3_fails 2 (some .boolean) :: ([.fieldLink RX3 52 "NameAuctionModel" "thrown" "I"] ++ wsX30)
def wsX3_isIn : List Cond := .code yX3_isIn cX3_isIn 3 (some .boolean) :: ([])
def wsX3_isName : List Cond := .code yX3_isName cX3_isName 1 (some .boolean) :: ([.methodLink RX3 56 yX3_isIn, .static yX3_isIn, .initialized RX3, .code yX3_isIn cX3_isIn 3 (some .boolean)])
def wsX3_isOwner : List Cond := .code yX3_isOwner cX3_isOwner 1 (some .boolean) :: ([.methodLink RX3 56 yX3_isIn, .static yX3_isIn, .initialized RX3, .code yX3_isIn cX3_isIn 3 (some .boolean)])
def wsX3_deposit : List Cond := .code yX3_deposit cX3_deposit 3 (some .int) :: ([.constant RX3 64 (100000), .fieldLink RX3 7 "NameAuctionModel" "funds" "[I", .methodLink RX3 60 yX3_isOwner, .static yX3_isOwner, .initialized RX3, .code yX3_isOwner cX3_isOwner 1 (some .boolean), .methodLink RX3 56 yX3_isIn, .static yX3_isIn, .code yX3_isIn cX3_isIn 3 (some .boolean), .methodLink RX3 65 yX3_fails, .instanceMethod yX3_fails, .selects RX3 yX3_fails yX3_fails, .code yX3_fails cX3_fails 2 (some .boolean), .fieldLink RX3 52 "NameAuctionModel" "thrown" "I"] ++ wsX30)
def wsX3_funds : List Cond := .code yX3_funds cX3_funds 2 (some .int) :: ([.fieldLink RX3 7 "NameAuctionModel" "funds" "[I", .methodLink RX3 60 yX3_isOwner, .static yX3_isOwner, .initialized RX3, .code yX3_isOwner cX3_isOwner 1 (some .boolean), .methodLink RX3 56 yX3_isIn, .static yX3_isIn, .code yX3_isIn cX3_isIn 3 (some .boolean), .methodLink RX3 65 yX3_fails, .instanceMethod yX3_fails, .selects RX3 yX3_fails yX3_fails, .code yX3_fails cX3_fails 2 (some .boolean), .fieldLink RX3 52 "NameAuctionModel" "thrown" "I"] ++ wsX30)
def wsX3_bid : List Cond := .code yX3_bid cX3_bid 5 (some .int) :: ([.constant RX3 64 (100000), .fieldLink RX3 13 "NameAuctionModel" "state" "[I", .fieldLink RX3 19 "NameAuctionModel" "day" "[I", .fieldLink RX3 71 "NameAuctionModel" "today" "I", .fieldLink RX3 37 "NameAuctionModel" "amount" "[I", .fieldLink RX3 40 "NameAuctionModel" "came" "[I", .fieldLink RX3 74 "NameAuctionModel" "clock" "I", .methodLink RX3 60 yX3_isOwner, .static yX3_isOwner, .initialized RX3, .code yX3_isOwner cX3_isOwner 1 (some .boolean), .methodLink RX3 56 yX3_isIn, .static yX3_isIn, .code yX3_isIn cX3_isIn 3 (some .boolean), .methodLink RX3 68 yX3_isName, .static yX3_isName, .code yX3_isName cX3_isName 1 (some .boolean), .methodLink RX3 65 yX3_fails, .instanceMethod yX3_fails, .selects RX3 yX3_fails yX3_fails, .code yX3_fails cX3_fails 2 (some .boolean), .fieldLink RX3 52 "NameAuctionModel" "thrown" "I"] ++ wsX30)
def wsX3_bids : List Cond := .code yX3_bids cX3_bids 4 (some .int) :: ([.fieldLink RX3 37 "NameAuctionModel" "amount" "[I", .methodLink RX3 68 yX3_isName, .static yX3_isName, .initialized RX3, .code yX3_isName cX3_isName 1 (some .boolean), .methodLink RX3 56 yX3_isIn, .static yX3_isIn, .code yX3_isIn cX3_isIn 3 (some .boolean), .methodLink RX3 65 yX3_fails, .instanceMethod yX3_fails, .selects RX3 yX3_fails yX3_fails, .code yX3_fails cX3_fails 2 (some .boolean), .fieldLink RX3 52 "NameAuctionModel" "thrown" "I"] ++ wsX30)
def wsX3_clears : List Cond := .code yX3_clears cX3_clears 3 none :: ([.fieldLink RX3 37 "NameAuctionModel" "amount" "[I"] ++ wsX30)
def wsX3_leases : List Cond := .code yX3_leases cX3_leases 3 none :: ([.fieldLink RX3 13 "NameAuctionModel" "state" "[I", .fieldLink RX3 16 "NameAuctionModel" "owner" "[I", .fieldLink RX3 19 "NameAuctionModel" "day" "[I", .fieldLink RX3 71 "NameAuctionModel" "today" "I", .fieldLink RX3 22 "NameAuctionModel" "record" "[I", .fieldLink RX3 25 "NameAuctionModel" "lifetime" "[I"] ++ wsX30)
def wsX3_bestBut : List Cond := .code yX3_bestBut cX3_bestBut 8 (some .int) :: ([.fieldLink RX3 37 "NameAuctionModel" "amount" "[I", .fieldLink RX3 7 "NameAuctionModel" "funds" "[I", .fieldLink RX3 40 "NameAuctionModel" "came" "[I"] ++ wsX30)
def wsX3_pays : List Cond := .code yX3_pays cX3_pays 3 none :: ([.fieldLink RX3 7 "NameAuctionModel" "funds" "[I", .fieldLink RX3 77 "NameAuctionModel" "takings" "I"] ++ wsX30)
def wsX3_closes_r1 : List Cond := [Cond.fieldLink RX3 37 "NameAuctionModel" "amount" "[I", Cond.fieldLink RX3 13 "NameAuctionModel" "state" "[I", Cond.methodLink RX3 80 yX3_bestBut, Cond.instanceMethod yX3_bestBut, Cond.selects RX3 yX3_bestBut yX3_bestBut, Cond.initialized RX3, Cond.code yX3_bestBut cX3_bestBut 8 (some .int), Cond.fieldLink RX3 7 "NameAuctionModel" "funds" "[I", Cond.fieldLink RX3 40 "NameAuctionModel" "came" "[I", Cond.methodLink RX3 84 yX3_clears, Cond.instanceMethod yX3_clears, Cond.selects RX3 yX3_clears yX3_clears, Cond.code yX3_clears cX3_clears 3 none, Cond.methodLink RX3 88 yX3_pays, Cond.instanceMethod yX3_pays, Cond.selects RX3 yX3_pays yX3_pays, Cond.code yX3_pays cX3_pays 3 none, Cond.fieldLink RX3 77 "NameAuctionModel" "takings" "I", Cond.methodLink RX3 92 yX3_leases, Cond.instanceMethod yX3_leases, Cond.selects RX3 yX3_leases yX3_leases, Cond.code yX3_leases cX3_leases 3 none, Cond.fieldLink RX3 16 "NameAuctionModel" "owner" "[I", Cond.fieldLink RX3 19 "NameAuctionModel" "day" "[I"]
def wsX3_closes_r2 : List Cond := [Cond.fieldLink RX3 71 "NameAuctionModel" "today" "I", Cond.fieldLink RX3 22 "NameAuctionModel" "record" "[I", Cond.fieldLink RX3 25 "NameAuctionModel" "lifetime" "[I"]
def wsX3_closes : List Cond := .code yX3_closes cX3_closes 5 (some .int) :: ((wsX3_closes_r1 ++ wsX3_closes_r2) ++ wsX30)
def wsX3_renew : List Cond := .code yX3_renew cX3_renew 6 (some .int) :: ([.fieldLink RX3 13 "NameAuctionModel" "state" "[I", .fieldLink RX3 19 "NameAuctionModel" "day" "[I", .fieldLink RX3 71 "NameAuctionModel" "today" "I", .fieldLink RX3 7 "NameAuctionModel" "funds" "[I", .fieldLink RX3 16 "NameAuctionModel" "owner" "[I", .methodLink RX3 68 yX3_isName, .static yX3_isName, .initialized RX3, .code yX3_isName cX3_isName 1 (some .boolean), .methodLink RX3 56 yX3_isIn, .static yX3_isIn, .code yX3_isIn cX3_isIn 3 (some .boolean), .methodLink RX3 65 yX3_fails, .instanceMethod yX3_fails, .selects RX3 yX3_fails yX3_fails, .code yX3_fails cX3_fails 2 (some .boolean), .fieldLink RX3 52 "NameAuctionModel" "thrown" "I", .methodLink RX3 88 yX3_pays, .instanceMethod yX3_pays, .selects RX3 yX3_pays yX3_pays, .code yX3_pays cX3_pays 3 none, .fieldLink RX3 77 "NameAuctionModel" "takings" "I"] ++ wsX30)
def wsX3_redeem_r1 : List Cond := [Cond.fieldLink RX3 13 "NameAuctionModel" "state" "[I", Cond.fieldLink RX3 7 "NameAuctionModel" "funds" "[I", Cond.fieldLink RX3 16 "NameAuctionModel" "owner" "[I", Cond.fieldLink RX3 19 "NameAuctionModel" "day" "[I", Cond.methodLink RX3 68 yX3_isName, Cond.static yX3_isName, Cond.initialized RX3, Cond.code yX3_isName cX3_isName 1 (some .boolean), Cond.methodLink RX3 56 yX3_isIn, Cond.static yX3_isIn, Cond.code yX3_isIn cX3_isIn 3 (some .boolean), Cond.methodLink RX3 65 yX3_fails, Cond.instanceMethod yX3_fails, Cond.selects RX3 yX3_fails yX3_fails, Cond.code yX3_fails cX3_fails 2 (some .boolean), Cond.fieldLink RX3 52 "NameAuctionModel" "thrown" "I", Cond.methodLink RX3 88 yX3_pays, Cond.instanceMethod yX3_pays, Cond.selects RX3 yX3_pays yX3_pays, Cond.code yX3_pays cX3_pays 3 none, Cond.fieldLink RX3 77 "NameAuctionModel" "takings" "I", Cond.methodLink RX3 92 yX3_leases, Cond.instanceMethod yX3_leases, Cond.selects RX3 yX3_leases yX3_leases]
def wsX3_redeem_r2 : List Cond := [Cond.code yX3_leases cX3_leases 3 none, Cond.fieldLink RX3 71 "NameAuctionModel" "today" "I", Cond.fieldLink RX3 22 "NameAuctionModel" "record" "[I", Cond.fieldLink RX3 25 "NameAuctionModel" "lifetime" "[I"]
def wsX3_redeem : List Cond := .code yX3_redeem cX3_redeem 4 (some .int) :: ((wsX3_redeem_r1 ++ wsX3_redeem_r2) ++ wsX30)
def wsX3_setRecord : List Cond := .code yX3_setRecord cX3_setRecord 7 (some .int) :: ([.fieldLink RX3 13 "NameAuctionModel" "state" "[I", .fieldLink RX3 22 "NameAuctionModel" "record" "[I", .fieldLink RX3 25 "NameAuctionModel" "lifetime" "[I", .methodLink RX3 68 yX3_isName, .static yX3_isName, .initialized RX3, .code yX3_isName cX3_isName 1 (some .boolean), .methodLink RX3 56 yX3_isIn, .static yX3_isIn, .code yX3_isIn cX3_isIn 3 (some .boolean), .methodLink RX3 65 yX3_fails, .instanceMethod yX3_fails, .selects RX3 yX3_fails yX3_fails, .code yX3_fails cX3_fails 2 (some .boolean), .fieldLink RX3 52 "NameAuctionModel" "thrown" "I"] ++ wsX30)
def wsX3_state : List Cond := .code yX3_state cX3_state 2 (some .int) :: ([.fieldLink RX3 13 "NameAuctionModel" "state" "[I", .methodLink RX3 68 yX3_isName, .static yX3_isName, .initialized RX3, .code yX3_isName cX3_isName 1 (some .boolean), .methodLink RX3 56 yX3_isIn, .static yX3_isIn, .code yX3_isIn cX3_isIn 3 (some .boolean), .methodLink RX3 65 yX3_fails, .instanceMethod yX3_fails, .selects RX3 yX3_fails yX3_fails, .code yX3_fails cX3_fails 2 (some .boolean), .fieldLink RX3 52 "NameAuctionModel" "thrown" "I"] ++ wsX30)
def wsX3_letter : List Cond := .code yX3_letter cX3_letter 2 (some .char) :: ([])
def wsX3_signOf : List Cond := .code yX3_signOf cX3_signOf 5 (some .char) :: ([.fieldLink RX3 13 "NameAuctionModel" "state" "[I", .fieldLink RX3 16 "NameAuctionModel" "owner" "[I", .methodLink RX3 95 yX3_letter, .static yX3_letter, .initialized RX3, .code yX3_letter cX3_letter 2 (some .char)] ++ wsX30)
def wsX3_sign : List Cond := .code yX3_sign cX3_sign 4 (some .char) :: ([.methodLink RX3 68 yX3_isName, .static yX3_isName, .initialized RX3, .code yX3_isName cX3_isName 1 (some .boolean), .methodLink RX3 56 yX3_isIn, .static yX3_isIn, .code yX3_isIn cX3_isIn 3 (some .boolean), .methodLink RX3 99 yX3_signOf, .instanceMethod yX3_signOf, .selects RX3 yX3_signOf yX3_signOf, .code yX3_signOf cX3_signOf 5 (some .char), .fieldLink RX3 13 "NameAuctionModel" "state" "[I", .fieldLink RX3 16 "NameAuctionModel" "owner" "[I", .methodLink RX3 95 yX3_letter, .static yX3_letter, .code yX3_letter cX3_letter 2 (some .char), .methodLink RX3 65 yX3_fails, .instanceMethod yX3_fails, .selects RX3 yX3_fails yX3_fails, .code yX3_fails cX3_fails 2 (some .boolean), .fieldLink RX3 52 "NameAuctionModel" "thrown" "I"] ++ wsX30)
def wsX3_owner : List Cond := .code yX3_owner cX3_owner 2 (some .int) :: ([.fieldLink RX3 16 "NameAuctionModel" "owner" "[I", .methodLink RX3 68 yX3_isName, .static yX3_isName, .initialized RX3, .code yX3_isName cX3_isName 1 (some .boolean), .methodLink RX3 56 yX3_isIn, .static yX3_isIn, .code yX3_isIn cX3_isIn 3 (some .boolean), .methodLink RX3 65 yX3_fails, .instanceMethod yX3_fails, .selects RX3 yX3_fails yX3_fails, .code yX3_fails cX3_fails 2 (some .boolean), .fieldLink RX3 52 "NameAuctionModel" "thrown" "I"] ++ wsX30)
def wsX3_nextOf : List Cond := .code yX3_nextOf cX3_nextOf 3 (some .int) :: ([.fieldLink RX3 13 "NameAuctionModel" "state" "[I", .fieldLink RX3 19 "NameAuctionModel" "day" "[I"] ++ wsX30)
def wsX3_next : List Cond := .code yX3_next cX3_next 2 (some .int) :: ([.methodLink RX3 68 yX3_isName, .static yX3_isName, .initialized RX3, .code yX3_isName cX3_isName 1 (some .boolean), .methodLink RX3 56 yX3_isIn, .static yX3_isIn, .code yX3_isIn cX3_isIn 3 (some .boolean), .methodLink RX3 65 yX3_fails, .instanceMethod yX3_fails, .selects RX3 yX3_fails yX3_fails, .code yX3_fails cX3_fails 2 (some .boolean), .fieldLink RX3 52 "NameAuctionModel" "thrown" "I", .methodLink RX3 102 yX3_nextOf, .instanceMethod yX3_nextOf, .selects RX3 yX3_nextOf yX3_nextOf, .code yX3_nextOf cX3_nextOf 3 (some .int), .fieldLink RX3 13 "NameAuctionModel" "state" "[I", .fieldLink RX3 19 "NameAuctionModel" "day" "[I"] ++ wsX30)
def wsX3_dispute_r1 : List Cond := [Cond.fieldLink RX3 13 "NameAuctionModel" "state" "[I", Cond.fieldLink RX3 16 "NameAuctionModel" "owner" "[I", Cond.fieldLink RX3 34 "NameAuctionModel" "before" "[I", Cond.fieldLink RX3 28 "NameAuctionModel" "challenger" "[I", Cond.fieldLink RX3 31 "NameAuctionModel" "since" "[I", Cond.fieldLink RX3 71 "NameAuctionModel" "today" "I", Cond.methodLink RX3 60 yX3_isOwner, Cond.static yX3_isOwner, Cond.initialized RX3, Cond.code yX3_isOwner cX3_isOwner 1 (some .boolean), Cond.methodLink RX3 56 yX3_isIn, Cond.static yX3_isIn, Cond.code yX3_isIn cX3_isIn 3 (some .boolean), Cond.methodLink RX3 68 yX3_isName, Cond.static yX3_isName, Cond.code yX3_isName cX3_isName 1 (some .boolean), Cond.methodLink RX3 65 yX3_fails, Cond.instanceMethod yX3_fails, Cond.selects RX3 yX3_fails yX3_fails, Cond.code yX3_fails cX3_fails 2 (some .boolean), Cond.fieldLink RX3 52 "NameAuctionModel" "thrown" "I", Cond.methodLink RX3 84 yX3_clears, Cond.instanceMethod yX3_clears, Cond.selects RX3 yX3_clears yX3_clears]
def wsX3_dispute_r2 : List Cond := [Cond.code yX3_clears cX3_clears 3 none, Cond.fieldLink RX3 37 "NameAuctionModel" "amount" "[I"]
def wsX3_dispute : List Cond := .code yX3_dispute cX3_dispute 4 (some .int) :: ((wsX3_dispute_r1 ++ wsX3_dispute_r2) ++ wsX30)
def wsX3_decide_r1 : List Cond := [Cond.fieldLink RX3 13 "NameAuctionModel" "state" "[I", Cond.fieldLink RX3 34 "NameAuctionModel" "before" "[I", Cond.fieldLink RX3 28 "NameAuctionModel" "challenger" "[I", Cond.fieldLink RX3 19 "NameAuctionModel" "day" "[I", Cond.fieldLink RX3 71 "NameAuctionModel" "today" "I", Cond.fieldLink RX3 31 "NameAuctionModel" "since" "[I", Cond.fieldLink RX3 16 "NameAuctionModel" "owner" "[I", Cond.methodLink RX3 68 yX3_isName, Cond.static yX3_isName, Cond.initialized RX3, Cond.code yX3_isName cX3_isName 1 (some .boolean), Cond.methodLink RX3 56 yX3_isIn, Cond.static yX3_isIn, Cond.code yX3_isIn cX3_isIn 3 (some .boolean), Cond.methodLink RX3 65 yX3_fails, Cond.instanceMethod yX3_fails, Cond.selects RX3 yX3_fails yX3_fails, Cond.code yX3_fails cX3_fails 2 (some .boolean), Cond.fieldLink RX3 52 "NameAuctionModel" "thrown" "I", Cond.methodLink RX3 92 yX3_leases, Cond.instanceMethod yX3_leases, Cond.selects RX3 yX3_leases yX3_leases, Cond.code yX3_leases cX3_leases 3 none, Cond.fieldLink RX3 22 "NameAuctionModel" "record" "[I"]
def wsX3_decide_r2 : List Cond := [Cond.fieldLink RX3 25 "NameAuctionModel" "lifetime" "[I"]
def wsX3_decide : List Cond := .code yX3_decide cX3_decide 4 (some .int) :: ((wsX3_decide_r1 ++ wsX3_decide_r2) ++ wsX30)
def wsX3_goesOn_r1 : List Cond := [Cond.fieldLink RX3 71 "NameAuctionModel" "today" "I", Cond.fieldLink RX3 13 "NameAuctionModel" "state" "[I", Cond.fieldLink RX3 16 "NameAuctionModel" "owner" "[I", Cond.methodLink RX3 102 yX3_nextOf, Cond.instanceMethod yX3_nextOf, Cond.selects RX3 yX3_nextOf yX3_nextOf, Cond.initialized RX3, Cond.code yX3_nextOf cX3_nextOf 3 (some .int), Cond.fieldLink RX3 19 "NameAuctionModel" "day" "[I", Cond.methodLink RX3 106 yX3_closes, Cond.instanceMethod yX3_closes, Cond.selects RX3 yX3_closes yX3_closes, Cond.code yX3_closes cX3_closes 5 (some .int), Cond.fieldLink RX3 37 "NameAuctionModel" "amount" "[I", Cond.methodLink RX3 80 yX3_bestBut, Cond.instanceMethod yX3_bestBut, Cond.selects RX3 yX3_bestBut yX3_bestBut, Cond.code yX3_bestBut cX3_bestBut 8 (some .int), Cond.fieldLink RX3 7 "NameAuctionModel" "funds" "[I", Cond.fieldLink RX3 40 "NameAuctionModel" "came" "[I", Cond.methodLink RX3 84 yX3_clears, Cond.instanceMethod yX3_clears, Cond.selects RX3 yX3_clears yX3_clears, Cond.code yX3_clears cX3_clears 3 none]
def wsX3_goesOn_r2 : List Cond := [Cond.methodLink RX3 88 yX3_pays, Cond.instanceMethod yX3_pays, Cond.selects RX3 yX3_pays yX3_pays, Cond.code yX3_pays cX3_pays 3 none, Cond.fieldLink RX3 77 "NameAuctionModel" "takings" "I", Cond.methodLink RX3 92 yX3_leases, Cond.instanceMethod yX3_leases, Cond.selects RX3 yX3_leases yX3_leases, Cond.code yX3_leases cX3_leases 3 none, Cond.fieldLink RX3 22 "NameAuctionModel" "record" "[I", Cond.fieldLink RX3 25 "NameAuctionModel" "lifetime" "[I"]
def wsX3_goesOn : List Cond := .code yX3_goesOn cX3_goesOn 3 (some .int) :: ((wsX3_goesOn_r1 ++ wsX3_goesOn_r2) ++ wsX30)
def wsX3_pass_r1 : List Cond := [Cond.fieldLink RX3 71 "NameAuctionModel" "today" "I", Cond.methodLink RX3 56 yX3_isIn, Cond.static yX3_isIn, Cond.initialized RX3, Cond.code yX3_isIn cX3_isIn 3 (some .boolean), Cond.methodLink RX3 65 yX3_fails, Cond.instanceMethod yX3_fails, Cond.selects RX3 yX3_fails yX3_fails, Cond.code yX3_fails cX3_fails 2 (some .boolean), Cond.fieldLink RX3 52 "NameAuctionModel" "thrown" "I", Cond.methodLink RX3 109 yX3_goesOn, Cond.instanceMethod yX3_goesOn, Cond.selects RX3 yX3_goesOn yX3_goesOn, Cond.code yX3_goesOn cX3_goesOn 3 (some .int), Cond.fieldLink RX3 13 "NameAuctionModel" "state" "[I", Cond.fieldLink RX3 16 "NameAuctionModel" "owner" "[I", Cond.methodLink RX3 102 yX3_nextOf, Cond.instanceMethod yX3_nextOf, Cond.selects RX3 yX3_nextOf yX3_nextOf, Cond.code yX3_nextOf cX3_nextOf 3 (some .int), Cond.fieldLink RX3 19 "NameAuctionModel" "day" "[I", Cond.methodLink RX3 106 yX3_closes, Cond.instanceMethod yX3_closes, Cond.selects RX3 yX3_closes yX3_closes]
def wsX3_pass_r2 : List Cond := [Cond.code yX3_closes cX3_closes 5 (some .int), Cond.fieldLink RX3 37 "NameAuctionModel" "amount" "[I", Cond.methodLink RX3 80 yX3_bestBut, Cond.instanceMethod yX3_bestBut, Cond.selects RX3 yX3_bestBut yX3_bestBut, Cond.code yX3_bestBut cX3_bestBut 8 (some .int), Cond.fieldLink RX3 7 "NameAuctionModel" "funds" "[I", Cond.fieldLink RX3 40 "NameAuctionModel" "came" "[I", Cond.methodLink RX3 84 yX3_clears, Cond.instanceMethod yX3_clears, Cond.selects RX3 yX3_clears yX3_clears, Cond.code yX3_clears cX3_clears 3 none, Cond.methodLink RX3 88 yX3_pays, Cond.instanceMethod yX3_pays, Cond.selects RX3 yX3_pays yX3_pays, Cond.code yX3_pays cX3_pays 3 none, Cond.fieldLink RX3 77 "NameAuctionModel" "takings" "I", Cond.methodLink RX3 92 yX3_leases, Cond.instanceMethod yX3_leases, Cond.selects RX3 yX3_leases yX3_leases, Cond.code yX3_leases cX3_leases 3 none, Cond.fieldLink RX3 22 "NameAuctionModel" "record" "[I", Cond.fieldLink RX3 25 "NameAuctionModel" "lifetime" "[I"]
def wsX3_pass : List Cond := .code yX3_pass cX3_pass 5 (some .int) :: ((wsX3_pass_r1 ++ wsX3_pass_r2) ++ wsX30)
def wsX3_today : List Cond := .code yX3_today cX3_today 1 (some .int) :: ([.fieldLink RX3 52 "NameAuctionModel" "thrown" "I", .fieldLink RX3 71 "NameAuctionModel" "today" "I"] ++ wsX30)
def wsX3_takings : List Cond := .code yX3_takings cX3_takings 1 (some .int) :: ([.fieldLink RX3 52 "NameAuctionModel" "thrown" "I", .fieldLink RX3 77 "NameAuctionModel" "takings" "I"] ++ wsX30)
def wsX3_hasRecord : List Cond := .code yX3_hasRecord cX3_hasRecord 2 (some .boolean) :: ([.fieldLink RX3 13 "NameAuctionModel" "state" "[I", .fieldLink RX3 34 "NameAuctionModel" "before" "[I", .methodLink RX3 56 yX3_isIn, .static yX3_isIn, .initialized RX3, .code yX3_isIn cX3_isIn 3 (some .boolean)] ++ wsX30)
def wsX3_answerOf : List Cond := .code yX3_answerOf cX3_answerOf 2 (some .int) :: ([.fieldLink RX3 22 "NameAuctionModel" "record" "[I", .methodLink RX3 112 yX3_hasRecord, .instanceMethod yX3_hasRecord, .selects RX3 yX3_hasRecord yX3_hasRecord, .initialized RX3, .code yX3_hasRecord cX3_hasRecord 2 (some .boolean), .fieldLink RX3 13 "NameAuctionModel" "state" "[I", .fieldLink RX3 34 "NameAuctionModel" "before" "[I", .methodLink RX3 56 yX3_isIn, .static yX3_isIn, .code yX3_isIn cX3_isIn 3 (some .boolean)] ++ wsX30)
def wsX3_isPlace : List Cond := .code yX3_isPlace cX3_isPlace 2 (some .boolean) :: ([.methodLink RX3 56 yX3_isIn, .static yX3_isIn, .initialized RX3, .code yX3_isIn cX3_isIn 3 (some .boolean), .methodLink RX3 68 yX3_isName, .static yX3_isName, .code yX3_isName cX3_isName 1 (some .boolean)])
def wsX3_isYoung : List Cond := .code yX3_isYoung cX3_isYoung 2 (some .boolean) :: ([.fieldLink RX3 43 "NameAuctionModel" "taken" "[I", .fieldLink RX3 71 "NameAuctionModel" "today" "I", .fieldLink RX3 49 "NameAuctionModel" "lives" "[I"] ++ wsX30)
def wsX3_lookUp_r1 : List Cond := [Cond.fieldLink RX3 43 "NameAuctionModel" "taken" "[I", Cond.fieldLink RX3 71 "NameAuctionModel" "today" "I", Cond.fieldLink RX3 46 "NameAuctionModel" "answer" "[I", Cond.fieldLink RX3 49 "NameAuctionModel" "lives" "[I", Cond.fieldLink RX3 25 "NameAuctionModel" "lifetime" "[I", Cond.methodLink RX3 115 yX3_isPlace, Cond.static yX3_isPlace, Cond.initialized RX3, Cond.code yX3_isPlace cX3_isPlace 2 (some .boolean), Cond.methodLink RX3 56 yX3_isIn, Cond.static yX3_isIn, Cond.code yX3_isIn cX3_isIn 3 (some .boolean), Cond.methodLink RX3 68 yX3_isName, Cond.static yX3_isName, Cond.code yX3_isName cX3_isName 1 (some .boolean), Cond.methodLink RX3 65 yX3_fails, Cond.instanceMethod yX3_fails, Cond.selects RX3 yX3_fails yX3_fails, Cond.code yX3_fails cX3_fails 2 (some .boolean), Cond.fieldLink RX3 52 "NameAuctionModel" "thrown" "I", Cond.methodLink RX3 119 yX3_isYoung, Cond.instanceMethod yX3_isYoung, Cond.selects RX3 yX3_isYoung yX3_isYoung, Cond.code yX3_isYoung cX3_isYoung 2 (some .boolean)]
def wsX3_lookUp_r2 : List Cond := [Cond.methodLink RX3 122 yX3_answerOf, Cond.instanceMethod yX3_answerOf, Cond.selects RX3 yX3_answerOf yX3_answerOf, Cond.code yX3_answerOf cX3_answerOf 2 (some .int), Cond.fieldLink RX3 22 "NameAuctionModel" "record" "[I", Cond.methodLink RX3 112 yX3_hasRecord, Cond.instanceMethod yX3_hasRecord, Cond.selects RX3 yX3_hasRecord yX3_hasRecord, Cond.code yX3_hasRecord cX3_hasRecord 2 (some .boolean), Cond.fieldLink RX3 13 "NameAuctionModel" "state" "[I", Cond.fieldLink RX3 34 "NameAuctionModel" "before" "[I"]
def wsX3_lookUp : List Cond := .code yX3_lookUp cX3_lookUp 4 (some .int) :: ((wsX3_lookUp_r1 ++ wsX3_lookUp_r2) ++ wsX30)
def wsX3_isStale_r1 : List Cond := [Cond.fieldLink RX3 46 "NameAuctionModel" "answer" "[I", Cond.methodLink RX3 115 yX3_isPlace, Cond.static yX3_isPlace, Cond.initialized RX3, Cond.code yX3_isPlace cX3_isPlace 2 (some .boolean), Cond.methodLink RX3 56 yX3_isIn, Cond.static yX3_isIn, Cond.code yX3_isIn cX3_isIn 3 (some .boolean), Cond.methodLink RX3 68 yX3_isName, Cond.static yX3_isName, Cond.code yX3_isName cX3_isName 1 (some .boolean), Cond.methodLink RX3 65 yX3_fails, Cond.instanceMethod yX3_fails, Cond.selects RX3 yX3_fails yX3_fails, Cond.code yX3_fails cX3_fails 2 (some .boolean), Cond.fieldLink RX3 52 "NameAuctionModel" "thrown" "I", Cond.methodLink RX3 119 yX3_isYoung, Cond.instanceMethod yX3_isYoung, Cond.selects RX3 yX3_isYoung yX3_isYoung, Cond.code yX3_isYoung cX3_isYoung 2 (some .boolean), Cond.fieldLink RX3 43 "NameAuctionModel" "taken" "[I", Cond.fieldLink RX3 71 "NameAuctionModel" "today" "I", Cond.fieldLink RX3 49 "NameAuctionModel" "lives" "[I", Cond.methodLink RX3 122 yX3_answerOf]
def wsX3_isStale_r2 : List Cond := [Cond.instanceMethod yX3_answerOf, Cond.selects RX3 yX3_answerOf yX3_answerOf, Cond.code yX3_answerOf cX3_answerOf 2 (some .int), Cond.fieldLink RX3 22 "NameAuctionModel" "record" "[I", Cond.methodLink RX3 112 yX3_hasRecord, Cond.instanceMethod yX3_hasRecord, Cond.selects RX3 yX3_hasRecord yX3_hasRecord, Cond.code yX3_hasRecord cX3_hasRecord 2 (some .boolean), Cond.fieldLink RX3 13 "NameAuctionModel" "state" "[I", Cond.fieldLink RX3 34 "NameAuctionModel" "before" "[I"]
def wsX3_isStale : List Cond := .code yX3_isStale cX3_isStale 4 (some .boolean) :: ((wsX3_isStale_r1 ++ wsX3_isStale_r2) ++ wsX30)
def wsX3_flush : List Cond := .code yX3_flush cX3_flush 4 (some .int) :: ([.fieldLink RX3 43 "NameAuctionModel" "taken" "[I", .methodLink RX3 56 yX3_isIn, .static yX3_isIn, .initialized RX3, .code yX3_isIn cX3_isIn 3 (some .boolean), .methodLink RX3 65 yX3_fails, .instanceMethod yX3_fails, .selects RX3 yX3_fails yX3_fails, .code yX3_fails cX3_fails 2 (some .boolean), .fieldLink RX3 52 "NameAuctionModel" "thrown" "I"] ++ wsX30)
def wsL_deposit : List Cond := .codeWith yL_deposit cL_deposit 5 (some .int) [(0, 10, 13, 13), (0, 10, 17, 15)] :: ([.classLink RL 13 "java/lang/IndexOutOfBoundsException", .classLink RL 15 "java/lang/IllegalArgumentException", .methodLink RL 7 yX2_deposit, .instanceMethod yX2_deposit, .selects RX2 yX2_deposit yX2_deposit, .initialized RX2, .code yX2_deposit cX2_deposit 3 (some .int), .constant RX2 31 (100000), .fieldLink RX2 9 "NameAuction" "money" "[I", .methodLink RX2 27 yX2_checkIndex, .static yX2_checkIndex, .code yX2_checkIndex cX2_checkIndex 2 none, .classLink RX2 141 "java/lang/IndexOutOfBoundsException", .initialized "java/lang/IndexOutOfBoundsException", .methodLink RX2 32 yX2_checkRange, .static yX2_checkRange, .code yX2_checkRange cX2_checkRange 3 none, .classLink RX2 144 "java/lang/IllegalArgumentException", .initialized "java/lang/IllegalArgumentException"] ++ wsX20 ++ (vx_at0 RX2 143 "java/lang/IndexOutOfBoundsException" ["java/lang/RuntimeException", "java/lang/Exception"]).filter goodWord ++ (vx_at0 RX2 146 "java/lang/IllegalArgumentException" ["java/lang/RuntimeException", "java/lang/Exception"]).filter goodWord)
def wsL_funds : List Cond := .codeWith yL_funds cL_funds 4 (some .int) [(0, 9, 12, 13)] :: ([.classLink RL 13 "java/lang/IndexOutOfBoundsException", .methodLink RL 17 yX2_funds, .instanceMethod yX2_funds, .selects RX2 yX2_funds yX2_funds, .initialized RX2, .code yX2_funds cX2_funds 2 (some .int), .fieldLink RX2 9 "NameAuction" "money" "[I", .methodLink RX2 27 yX2_checkIndex, .static yX2_checkIndex, .code yX2_checkIndex cX2_checkIndex 2 none, .classLink RX2 141 "java/lang/IndexOutOfBoundsException", .initialized "java/lang/IndexOutOfBoundsException"] ++ wsX20 ++ (vx_at0 RX2 143 "java/lang/IndexOutOfBoundsException" ["java/lang/RuntimeException", "java/lang/Exception"]).filter goodWord)
def wsL_bid_r1 : List Cond := [Cond.classLink RL 13 "java/lang/IndexOutOfBoundsException", Cond.classLink RL 15 "java/lang/IllegalArgumentException", Cond.classLink RL 25 "java/lang/IllegalStateException", Cond.methodLink RL 21 yX2_bid, Cond.instanceMethod yX2_bid, Cond.selects RX2 yX2_bid yX2_bid, Cond.initialized RX2, Cond.code yX2_bid cX2_bid 5 (some .int), Cond.constant RX2 31 (100000), Cond.fieldLink RX2 15 "NameAuction" "names" "[LNameAuction$Name;", Cond.fieldLink RX2 44 "NameAuction" "day" "I", Cond.fieldLink RX2 51 "NameAuction" "bidsMade" "I", Cond.methodLink RX2 27 yX2_checkIndex, Cond.static yX2_checkIndex, Cond.code yX2_checkIndex cX2_checkIndex 2 none, Cond.classLink RX2 141 "java/lang/IndexOutOfBoundsException", Cond.initialized "java/lang/IndexOutOfBoundsException", Cond.methodLink RX2 32 yX2_checkRange, Cond.static yX2_checkRange, Cond.code yX2_checkRange cX2_checkRange 3 none, Cond.classLink RX2 144 "java/lang/IllegalArgumentException", Cond.initialized "java/lang/IllegalArgumentException", Cond.methodLink RX2 40 yX2_checkPossible, Cond.static yX2_checkPossible]
def wsL_bid_r2 : List Cond := [Cond.code yX2_checkPossible cX2_checkPossible 1 none, Cond.classLink RX2 147 "java/lang/IllegalStateException", Cond.initialized "java/lang/IllegalStateException", Cond.instanceMethod yX0_beginAuction, Cond.initialized RX0, Cond.selects RX0 yX0_beginAuction yX0_beginAuction, Cond.code yX0_beginAuction cX0_beginAuction 2 none, Cond.fieldLink RX0 9 "NameAuction$Name" "phase" "I", Cond.fieldLink RX0 25 "NameAuction$Name" "closing" "I"]
def wsL_bid : List Cond := .codeWith yL_bid cL_bid 6 (some .int) [(0, 12, 15, 13), (0, 12, 19, 15), (0, 12, 23, 25)] :: ((wsL_bid_r1 ++ wsL_bid_r2) ++ wsX20 ++ wsX00 ++ (vx_at0 RX2 143 "java/lang/IndexOutOfBoundsException" ["java/lang/RuntimeException", "java/lang/Exception"]).filter goodWord ++ (vx_at0 RX2 146 "java/lang/IllegalArgumentException" ["java/lang/RuntimeException", "java/lang/Exception"]).filter goodWord ++ (vx_at0 RX2 149 "java/lang/IllegalStateException" ["java/lang/RuntimeException", "java/lang/Exception"]).filter goodWord)
def wsL_bids : List Cond := .codeWith yL_bids cL_bids 4 (some .int) [(0, 9, 12, 13)] :: ([.classLink RL 13 "java/lang/IndexOutOfBoundsException", .methodLink RL 27 yX2_bids, .instanceMethod yX2_bids, .selects RX2 yX2_bids yX2_bids, .initialized RX2, .code yX2_bids cX2_bids 2 (some .int), .fieldLink RX2 15 "NameAuction" "names" "[LNameAuction$Name;", .methodLink RX2 27 yX2_checkIndex, .static yX2_checkIndex, .code yX2_checkIndex cX2_checkIndex 2 none, .classLink RX2 141 "java/lang/IndexOutOfBoundsException", .initialized "java/lang/IndexOutOfBoundsException", .instanceMethod yX0_countBids, .initialized RX0, .selects RX0 yX0_countBids yX0_countBids, .code yX0_countBids cX0_countBids 3 (some .int), .fieldLink RX0 18 "NameAuction$Name" "amounts" "[I"] ++ wsX20 ++ wsX00 ++ (vx_at0 RX2 143 "java/lang/IndexOutOfBoundsException" ["java/lang/RuntimeException", "java/lang/Exception"]).filter goodWord)
def wsL_renew_r1 : List Cond := [Cond.classLink RL 13 "java/lang/IndexOutOfBoundsException", Cond.classLink RL 15 "java/lang/IllegalArgumentException", Cond.classLink RL 25 "java/lang/IllegalStateException", Cond.methodLink RL 30 yX2_renew, Cond.instanceMethod yX2_renew, Cond.selects RX2 yX2_renew yX2_renew, Cond.initialized RX2, Cond.code yX2_renew cX2_renew 6 (some .int), Cond.fieldLink RX2 15 "NameAuction" "names" "[LNameAuction$Name;", Cond.fieldLink RX2 44 "NameAuction" "day" "I", Cond.methodLink RX2 27 yX2_checkIndex, Cond.static yX2_checkIndex, Cond.code yX2_checkIndex cX2_checkIndex 2 none, Cond.classLink RX2 141 "java/lang/IndexOutOfBoundsException", Cond.initialized "java/lang/IndexOutOfBoundsException", Cond.methodLink RX2 32 yX2_checkRange, Cond.static yX2_checkRange, Cond.code yX2_checkRange cX2_checkRange 3 none, Cond.classLink RX2 144 "java/lang/IllegalArgumentException", Cond.initialized "java/lang/IllegalArgumentException", Cond.methodLink RX2 70 yX2_isHeld, Cond.static yX2_isHeld, Cond.code yX2_isHeld cX2_isHeld 1 (some .boolean), Cond.methodLink RX2 77 yX2_canPay]
def wsL_renew_r2 : List Cond := [Cond.instanceMethod yX2_canPay, Cond.selects RX2 yX2_canPay yX2_canPay, Cond.code yX2_canPay cX2_canPay 3 (some .boolean), Cond.fieldLink RX2 9 "NameAuction" "money" "[I", Cond.methodLink RX2 40 yX2_checkPossible, Cond.static yX2_checkPossible, Cond.code yX2_checkPossible cX2_checkPossible 1 none, Cond.classLink RX2 147 "java/lang/IllegalStateException", Cond.initialized "java/lang/IllegalStateException", Cond.methodLink RX2 81 yX2_pay, Cond.instanceMethod yX2_pay, Cond.selects RX2 yX2_pay yX2_pay, Cond.code yX2_pay cX2_pay 3 none, Cond.fieldLink RX2 119 "NameAuction" "paid" "I"]
def wsL_renew : List Cond := .codeWith yL_renew cL_renew 5 (some .int) [(0, 10, 13, 13), (0, 10, 17, 15), (0, 10, 21, 25)] :: ((wsL_renew_r1 ++ wsL_renew_r2) ++ wsX20 ++ wsX00 ++ (vx_at0 RX2 143 "java/lang/IndexOutOfBoundsException" ["java/lang/RuntimeException", "java/lang/Exception"]).filter goodWord ++ (vx_at0 RX2 146 "java/lang/IllegalArgumentException" ["java/lang/RuntimeException", "java/lang/Exception"]).filter goodWord ++ (vx_at0 RX2 149 "java/lang/IllegalStateException" ["java/lang/RuntimeException", "java/lang/Exception"]).filter goodWord)
def wsL_redeem_r1 : List Cond := [Cond.classLink RL 13 "java/lang/IndexOutOfBoundsException", Cond.classLink RL 25 "java/lang/IllegalStateException", Cond.methodLink RL 33 yX2_redeem, Cond.instanceMethod yX2_redeem, Cond.selects RX2 yX2_redeem yX2_redeem, Cond.initialized RX2, Cond.code yX2_redeem cX2_redeem 3 (some .int), Cond.fieldLink RX2 15 "NameAuction" "names" "[LNameAuction$Name;", Cond.fieldLink RX2 44 "NameAuction" "day" "I", Cond.methodLink RX2 27 yX2_checkIndex, Cond.static yX2_checkIndex, Cond.code yX2_checkIndex cX2_checkIndex 2 none, Cond.classLink RX2 141 "java/lang/IndexOutOfBoundsException", Cond.initialized "java/lang/IndexOutOfBoundsException", Cond.methodLink RX2 77 yX2_canPay, Cond.instanceMethod yX2_canPay, Cond.selects RX2 yX2_canPay yX2_canPay, Cond.code yX2_canPay cX2_canPay 3 (some .boolean), Cond.fieldLink RX2 9 "NameAuction" "money" "[I", Cond.methodLink RX2 40 yX2_checkPossible, Cond.static yX2_checkPossible, Cond.code yX2_checkPossible cX2_checkPossible 1 none, Cond.classLink RX2 147 "java/lang/IllegalStateException", Cond.initialized "java/lang/IllegalStateException"]
def wsL_redeem_r2 : List Cond := [Cond.methodLink RX2 81 yX2_pay, Cond.instanceMethod yX2_pay, Cond.selects RX2 yX2_pay yX2_pay, Cond.code yX2_pay cX2_pay 3 none, Cond.fieldLink RX2 119 "NameAuction" "paid" "I", Cond.instanceMethod yX0_leaseTo, Cond.initialized RX0, Cond.selects RX0 yX0_leaseTo yX0_leaseTo, Cond.code yX0_leaseTo cX0_leaseTo 3 none, Cond.fieldLink RX0 9 "NameAuction$Name" "phase" "I", Cond.fieldLink RX0 15 "NameAuction$Name" "holder" "I", Cond.fieldLink RX0 31 "NameAuction$Name" "end" "I", Cond.fieldLink RX0 34 "NameAuction$Name" "record" "I", Cond.fieldLink RX0 37 "NameAuction$Name" "lifetime" "I", Cond.methodLink RX0 28 yX0_dropBids, Cond.instanceMethod yX0_dropBids, Cond.selects RX0 yX0_dropBids yX0_dropBids, Cond.code yX0_dropBids cX0_dropBids 1 none, Cond.fieldLink RX0 18 "NameAuction$Name" "amounts" "[I", Cond.methodLink RX0 56 yJ7_fill_53178, Cond.static yJ7_fill_53178, Cond.initialized RJ7, Cond.code yJ7_fill_53178 cJ7_fill_53178 4 none]
def wsL_redeem : List Cond := .codeWith yL_redeem cL_redeem 4 (some .int) [(0, 9, 12, 13), (0, 9, 15, 25)] :: ((wsL_redeem_r1 ++ wsL_redeem_r2) ++ wsX20 ++ wsX00 ++ (vx_at0 RX2 143 "java/lang/IndexOutOfBoundsException" ["java/lang/RuntimeException", "java/lang/Exception"]).filter goodWord ++ (vx_at0 RX2 149 "java/lang/IllegalStateException" ["java/lang/RuntimeException", "java/lang/Exception"]).filter goodWord)
def wsL_setRecord : List Cond := .codeWith yL_setRecord cL_setRecord 6 (some .int) [(0, 12, 15, 13), (0, 12, 19, 15), (0, 12, 23, 25)] :: ([.classLink RL 13 "java/lang/IndexOutOfBoundsException", .classLink RL 15 "java/lang/IllegalArgumentException", .classLink RL 25 "java/lang/IllegalStateException", .methodLink RL 36 yX2_setRecord, .instanceMethod yX2_setRecord, .selects RX2 yX2_setRecord yX2_setRecord, .initialized RX2, .code yX2_setRecord cX2_setRecord 6 (some .int), .fieldLink RX2 15 "NameAuction" "names" "[LNameAuction$Name;", .methodLink RX2 27 yX2_checkIndex, .static yX2_checkIndex, .code yX2_checkIndex cX2_checkIndex 2 none, .classLink RX2 141 "java/lang/IndexOutOfBoundsException", .initialized "java/lang/IndexOutOfBoundsException", .methodLink RX2 32 yX2_checkRange, .static yX2_checkRange, .code yX2_checkRange cX2_checkRange 3 none, .classLink RX2 144 "java/lang/IllegalArgumentException", .initialized "java/lang/IllegalArgumentException", .methodLink RX2 40 yX2_checkPossible, .static yX2_checkPossible, .code yX2_checkPossible cX2_checkPossible 1 none, .classLink RX2 147 "java/lang/IllegalStateException", .initialized "java/lang/IllegalStateException"] ++ wsX20 ++ wsX00 ++ (vx_at0 RX2 143 "java/lang/IndexOutOfBoundsException" ["java/lang/RuntimeException", "java/lang/Exception"]).filter goodWord ++ (vx_at0 RX2 146 "java/lang/IllegalArgumentException" ["java/lang/RuntimeException", "java/lang/Exception"]).filter goodWord ++ (vx_at0 RX2 149 "java/lang/IllegalStateException" ["java/lang/RuntimeException", "java/lang/Exception"]).filter goodWord)
def wsL_state : List Cond := .codeWith yL_state cL_state 4 (some .int) [(0, 9, 12, 13)] :: ([.classLink RL 13 "java/lang/IndexOutOfBoundsException", .methodLink RL 39 yX2_state, .instanceMethod yX2_state, .selects RX2 yX2_state yX2_state, .initialized RX2, .code yX2_state cX2_state 2 (some .int), .fieldLink RX2 15 "NameAuction" "names" "[LNameAuction$Name;", .methodLink RX2 27 yX2_checkIndex, .static yX2_checkIndex, .code yX2_checkIndex cX2_checkIndex 2 none, .classLink RX2 141 "java/lang/IndexOutOfBoundsException", .initialized "java/lang/IndexOutOfBoundsException"] ++ wsX20 ++ wsX00 ++ (vx_at0 RX2 143 "java/lang/IndexOutOfBoundsException" ["java/lang/RuntimeException", "java/lang/Exception"]).filter goodWord)
def wsL_sign_r1 : List Cond := [Cond.classLink RL 13 "java/lang/IndexOutOfBoundsException", Cond.methodLink RL 42 yX2_sign, Cond.instanceMethod yX2_sign, Cond.selects RX2 yX2_sign yX2_sign, Cond.initialized RX2, Cond.code yX2_sign cX2_sign 6 (some .char), Cond.fieldLink RX2 15 "NameAuction" "names" "[LNameAuction$Name;", Cond.methodLink RX2 27 yX2_checkIndex, Cond.static yX2_checkIndex, Cond.code yX2_checkIndex cX2_checkIndex 2 none, Cond.classLink RX2 141 "java/lang/IndexOutOfBoundsException", Cond.initialized "java/lang/IndexOutOfBoundsException", Cond.methodLink RX2 93 yX2_wordOf, Cond.static yX2_wordOf, Cond.code yX2_wordOf cX2_wordOf 1 (some (.object "java/lang/String")), Cond.methodLink RX2 97 yJ0_length_8abf5, Cond.instanceMethod yJ0_length_8abf5, Cond.selects RJ0 yJ0_length_8abf5 yJ0_length_8abf5, Cond.initialized RJ0, Cond.code yJ0_length_8abf5 cJ0_length_8abf5 1 (some .int), Cond.fieldLink RJ0 9 "java/lang/String" "value" "[B", Cond.methodLink RJ0 335 yJ0_coder_7d493, Cond.instanceMethod yJ0_coder_7d493, Cond.selects RJ0 yJ0_coder_7d493 yJ0_coder_7d493]
def wsL_sign_r2 : List Cond := [Cond.code yJ0_coder_7d493 cJ0_coder_7d493 1 (some .byte), Cond.fieldLink RJ0 38 "java/lang/String" "COMPACT_STRINGS" "Z", Cond.fieldLink RJ0 15 "java/lang/String" "coder" "B", Cond.methodLink RX2 102 yJ0_charAt_5068e, Cond.instanceMethod yJ0_charAt_5068e, Cond.selects RJ0 yJ0_charAt_5068e yJ0_charAt_5068e, Cond.code yJ0_charAt_5068e cJ0_charAt_5068e 2 (some .char), Cond.methodLink RJ0 492 yJ0_isLatin1_aae02, Cond.instanceMethod yJ0_isLatin1_aae02, Cond.selects RJ0 yJ0_isLatin1_aae02 yJ0_isLatin1_aae02, Cond.code yJ0_isLatin1_aae02 cJ0_isLatin1_aae02 1 (some .boolean), Cond.methodLink RJ0 495 yJ1_charAt_3b067, Cond.static yJ1_charAt_3b067, Cond.initialized RJ1, Cond.code yJ1_charAt_3b067 cJ1_charAt_3b067 2 (some .char), Cond.methodLink RJ1 9 yJ0_checkIndex_df160, Cond.static yJ0_checkIndex_df160, Cond.code yJ0_checkIndex_df160 cJ0_checkIndex_df160 2 none, Cond.fieldLink RJ0 1053 "jdk/internal/util/Preconditions" "SIOOBE_FORMATTER" "Ljava/util/function/BiFunction;", Cond.methodLink RJ0 1059 yJ3_checkIndex_8e157, Cond.static yJ3_checkIndex_8e157, Cond.initialized RJ3, Cond.code yJ3_checkIndex_8e157 cJ3_checkIndex_8e157 3 (some .int), Cond.methodLink RJ0 498 yJ2_charAt_3b067]
def wsL_sign_r3 : List Cond := [Cond.static yJ2_charAt_3b067, Cond.initialized RJ2, Cond.code yJ2_charAt_3b067 cJ2_charAt_3b067 2 (some .char), Cond.methodLink RJ2 67 yJ2_checkIndex_2214a, Cond.static yJ2_checkIndex_2214a, Cond.code yJ2_checkIndex_2214a cJ2_checkIndex_2214a 2 none, Cond.methodLink RJ2 48 yJ2_length_9d52b, Cond.static yJ2_length_9d52b, Cond.code yJ2_length_9d52b cJ2_length_9d52b 1 (some .int), Cond.methodLink RJ2 414 yJ0_checkIndex_df160, Cond.methodLink RJ2 71 yJ2_getChar_3b067, Cond.static yJ2_getChar_3b067, Cond.code yJ2_getChar_3b067 cJ2_getChar_3b067 2 (some .char), Cond.fieldLink RJ2 44 "java/lang/StringUTF16" "$assertionsDisabled" "Z", Cond.fieldLink RJ2 59 "java/lang/StringUTF16" "HI_BYTE_SHIFT" "I", Cond.fieldLink RJ2 63 "java/lang/StringUTF16" "LO_BYTE_SHIFT" "I"]
def wsL_sign : List Cond := .codeWith yL_sign cL_sign 5 (some .int) [(0, 10, 13, 13)] :: ((wsL_sign_r1 ++ (wsL_sign_r2 ++ wsL_sign_r3)) ++ wsX20 ++ wsX00 ++ (vx_at0 RX2 143 "java/lang/IndexOutOfBoundsException" ["java/lang/RuntimeException", "java/lang/Exception"]).filter goodWord)
def wsL_owner : List Cond := .codeWith yL_owner cL_owner 4 (some .int) [(0, 9, 12, 13)] :: ([.classLink RL 13 "java/lang/IndexOutOfBoundsException", .methodLink RL 46 yX2_owner, .instanceMethod yX2_owner, .selects RX2 yX2_owner yX2_owner, .initialized RX2, .code yX2_owner cX2_owner 2 (some .int), .fieldLink RX2 15 "NameAuction" "names" "[LNameAuction$Name;", .methodLink RX2 27 yX2_checkIndex, .static yX2_checkIndex, .code yX2_checkIndex cX2_checkIndex 2 none, .classLink RX2 141 "java/lang/IndexOutOfBoundsException", .initialized "java/lang/IndexOutOfBoundsException"] ++ wsX20 ++ wsX00 ++ (vx_at0 RX2 143 "java/lang/IndexOutOfBoundsException" ["java/lang/RuntimeException", "java/lang/Exception"]).filter goodWord)
def wsL_next : List Cond := .codeWith yL_next cL_next 4 (some .int) [(0, 9, 12, 13)] :: ([.classLink RL 13 "java/lang/IndexOutOfBoundsException", .methodLink RL 49 yX2_next, .instanceMethod yX2_next, .selects RX2 yX2_next yX2_next, .initialized RX2, .code yX2_next cX2_next 2 (some .int), .fieldLink RX2 15 "NameAuction" "names" "[LNameAuction$Name;", .methodLink RX2 27 yX2_checkIndex, .static yX2_checkIndex, .code yX2_checkIndex cX2_checkIndex 2 none, .classLink RX2 141 "java/lang/IndexOutOfBoundsException", .initialized "java/lang/IndexOutOfBoundsException", .instanceMethod yX0_dayOfChange, .initialized RX0, .selects RX0 yX0_dayOfChange yX0_dayOfChange, .code yX0_dayOfChange cX0_dayOfChange 1 (some .int), .fieldLink RX0 9 "NameAuction$Name" "phase" "I", .fieldLink RX0 25 "NameAuction$Name" "closing" "I", .fieldLink RX0 31 "NameAuction$Name" "end" "I"] ++ wsX20 ++ wsX00 ++ (vx_at0 RX2 143 "java/lang/IndexOutOfBoundsException" ["java/lang/RuntimeException", "java/lang/Exception"]).filter goodWord)
def wsL_dispute_r1 : List Cond := [Cond.classLink RL 13 "java/lang/IndexOutOfBoundsException", Cond.classLink RL 25 "java/lang/IllegalStateException", Cond.methodLink RL 52 yX2_dispute, Cond.instanceMethod yX2_dispute, Cond.selects RX2 yX2_dispute yX2_dispute, Cond.initialized RX2, Cond.code yX2_dispute cX2_dispute 5 (some .int), Cond.fieldLink RX2 15 "NameAuction" "names" "[LNameAuction$Name;", Cond.fieldLink RX2 44 "NameAuction" "day" "I", Cond.methodLink RX2 27 yX2_checkIndex, Cond.static yX2_checkIndex, Cond.code yX2_checkIndex cX2_checkIndex 2 none, Cond.classLink RX2 141 "java/lang/IndexOutOfBoundsException", Cond.initialized "java/lang/IndexOutOfBoundsException", Cond.methodLink RX2 70 yX2_isHeld, Cond.static yX2_isHeld, Cond.code yX2_isHeld cX2_isHeld 1 (some .boolean), Cond.methodLink RX2 40 yX2_checkPossible, Cond.static yX2_checkPossible, Cond.code yX2_checkPossible cX2_checkPossible 1 none, Cond.classLink RX2 147 "java/lang/IllegalStateException", Cond.initialized "java/lang/IllegalStateException", Cond.instanceMethod yX0_freeze, Cond.initialized RX0]
def wsL_dispute_r2 : List Cond := [Cond.selects RX0 yX0_freeze yX0_freeze, Cond.code yX0_freeze cX0_freeze 3 none, Cond.fieldLink RX0 9 "NameAuction$Name" "phase" "I", Cond.fieldLink RX0 43 "NameAuction$Name" "phaseBefore" "I", Cond.fieldLink RX0 46 "NameAuction$Name" "challenger" "I", Cond.fieldLink RX0 49 "NameAuction$Name" "frozenOn" "I", Cond.methodLink RX0 28 yX0_dropBids, Cond.instanceMethod yX0_dropBids, Cond.selects RX0 yX0_dropBids yX0_dropBids, Cond.code yX0_dropBids cX0_dropBids 1 none, Cond.fieldLink RX0 18 "NameAuction$Name" "amounts" "[I", Cond.methodLink RX0 56 yJ7_fill_53178, Cond.static yJ7_fill_53178, Cond.initialized RJ7, Cond.code yJ7_fill_53178 cJ7_fill_53178 4 none]
def wsL_dispute : List Cond := .codeWith yL_dispute cL_dispute 5 (some .int) [(0, 10, 13, 13), (0, 10, 17, 25)] :: ((wsL_dispute_r1 ++ wsL_dispute_r2) ++ wsX20 ++ wsX00 ++ (vx_at0 RX2 143 "java/lang/IndexOutOfBoundsException" ["java/lang/RuntimeException", "java/lang/Exception"]).filter goodWord ++ (vx_at0 RX2 149 "java/lang/IllegalStateException" ["java/lang/RuntimeException", "java/lang/Exception"]).filter goodWord)
def wsL_decide_r1 : List Cond := [Cond.classLink RL 13 "java/lang/IndexOutOfBoundsException", Cond.classLink RL 25 "java/lang/IllegalStateException", Cond.methodLink RL 55 yX2_decide, Cond.instanceMethod yX2_decide, Cond.selects RX2 yX2_decide yX2_decide, Cond.initialized RX2, Cond.code yX2_decide cX2_decide 4 (some .int), Cond.fieldLink RX2 15 "NameAuction" "names" "[LNameAuction$Name;", Cond.fieldLink RX2 44 "NameAuction" "day" "I", Cond.methodLink RX2 27 yX2_checkIndex, Cond.static yX2_checkIndex, Cond.code yX2_checkIndex cX2_checkIndex 2 none, Cond.classLink RX2 141 "java/lang/IndexOutOfBoundsException", Cond.initialized "java/lang/IndexOutOfBoundsException", Cond.methodLink RX2 40 yX2_checkPossible, Cond.static yX2_checkPossible, Cond.code yX2_checkPossible cX2_checkPossible 1 none, Cond.classLink RX2 147 "java/lang/IllegalStateException", Cond.initialized "java/lang/IllegalStateException", Cond.instanceMethod yX0_thaw, Cond.initialized RX0, Cond.selects RX0 yX0_thaw yX0_thaw, Cond.code yX0_thaw cX0_thaw 3 none, Cond.fieldLink RX0 43 "NameAuction$Name" "phaseBefore" "I"]
def wsL_decide_r2 : List Cond := [Cond.fieldLink RX0 9 "NameAuction$Name" "phase" "I", Cond.fieldLink RX0 31 "NameAuction$Name" "end" "I", Cond.fieldLink RX0 49 "NameAuction$Name" "frozenOn" "I", Cond.fieldLink RX0 46 "NameAuction$Name" "challenger" "I", Cond.fieldLink RX0 15 "NameAuction$Name" "holder" "I", Cond.methodLink RX0 52 yX0_leaseTo, Cond.instanceMethod yX0_leaseTo, Cond.selects RX0 yX0_leaseTo yX0_leaseTo, Cond.code yX0_leaseTo cX0_leaseTo 3 none, Cond.fieldLink RX0 34 "NameAuction$Name" "record" "I", Cond.fieldLink RX0 37 "NameAuction$Name" "lifetime" "I", Cond.methodLink RX0 28 yX0_dropBids, Cond.instanceMethod yX0_dropBids, Cond.selects RX0 yX0_dropBids yX0_dropBids, Cond.code yX0_dropBids cX0_dropBids 1 none, Cond.fieldLink RX0 18 "NameAuction$Name" "amounts" "[I", Cond.methodLink RX0 56 yJ7_fill_53178, Cond.static yJ7_fill_53178, Cond.initialized RJ7, Cond.code yJ7_fill_53178 cJ7_fill_53178 4 none, Cond.methodLink RX0 40 yX0_release, Cond.instanceMethod yX0_release, Cond.selects RX0 yX0_release yX0_release, Cond.code yX0_release cX0_release 1 none]
def wsL_decide : List Cond := .codeWith yL_decide cL_decide 5 (some .int) [(0, 10, 13, 13), (0, 10, 17, 25)] :: ((wsL_decide_r1 ++ wsL_decide_r2) ++ wsX20 ++ wsX00 ++ (vx_at0 RX2 143 "java/lang/IndexOutOfBoundsException" ["java/lang/RuntimeException", "java/lang/Exception"]).filter goodWord ++ (vx_at0 RX2 149 "java/lang/IllegalStateException" ["java/lang/RuntimeException", "java/lang/Exception"]).filter goodWord)
def wsL_pass_r1 : List Cond := [Cond.classLink RL 15 "java/lang/IllegalArgumentException", Cond.methodLink RL 59 yX2_pass, Cond.instanceMethod yX2_pass, Cond.selects RX2 yX2_pass yX2_pass, Cond.initialized RX2, Cond.code yX2_pass cX2_pass 4 (some .int), Cond.fieldLink RX2 44 "NameAuction" "day" "I", Cond.methodLink RX2 32 yX2_checkRange, Cond.static yX2_checkRange, Cond.code yX2_checkRange cX2_checkRange 3 none, Cond.classLink RX2 144 "java/lang/IllegalArgumentException", Cond.initialized "java/lang/IllegalArgumentException", Cond.methodLink RX2 116 yX2_changeNames, Cond.instanceMethod yX2_changeNames, Cond.selects RX2 yX2_changeNames yX2_changeNames, Cond.code yX2_changeNames cX2_changeNames 4 (some .int), Cond.fieldLink RX2 15 "NameAuction" "names" "[LNameAuction$Name;", Cond.instanceMethod yX0_dayOfChange, Cond.initialized RX0, Cond.selects RX0 yX0_dayOfChange yX0_dayOfChange, Cond.code yX0_dayOfChange cX0_dayOfChange 1 (some .int), Cond.fieldLink RX0 9 "NameAuction$Name" "phase" "I", Cond.fieldLink RX0 25 "NameAuction$Name" "closing" "I", Cond.fieldLink RX0 31 "NameAuction$Name" "end" "I"]
def wsL_pass_r2 : List Cond := [Cond.instanceMethod yX0_goOn, Cond.selects RX0 yX0_goOn yX0_goOn, Cond.code yX0_goOn cX0_goOn 1 none, Cond.methodLink RX0 40 yX0_release, Cond.instanceMethod yX0_release, Cond.selects RX0 yX0_release yX0_release, Cond.code yX0_release cX0_release 1 none, Cond.fieldLink RX0 15 "NameAuction$Name" "holder" "I", Cond.methodLink RX0 28 yX0_dropBids, Cond.instanceMethod yX0_dropBids, Cond.selects RX0 yX0_dropBids yX0_dropBids, Cond.code yX0_dropBids cX0_dropBids 1 none, Cond.fieldLink RX0 18 "NameAuction$Name" "amounts" "[I", Cond.methodLink RX0 56 yJ7_fill_53178, Cond.static yJ7_fill_53178, Cond.initialized RJ7, Cond.code yJ7_fill_53178 cJ7_fill_53178 4 none, Cond.methodLink RX2 165 yX2_closeAuction, Cond.instanceMethod yX2_closeAuction, Cond.selects RX2 yX2_closeAuction yX2_closeAuction, Cond.code yX2_closeAuction cX2_closeAuction 4 (some .boolean), Cond.methodLink RX2 169 yX2_bestBidder, Cond.instanceMethod yX2_bestBidder, Cond.selects RX2 yX2_bestBidder yX2_bestBidder]
def wsL_pass_r3 : List Cond := [Cond.code yX2_bestBidder cX2_bestBidder 6 (some .int), Cond.methodLink RX2 77 yX2_canPay, Cond.instanceMethod yX2_canPay, Cond.selects RX2 yX2_canPay yX2_canPay, Cond.code yX2_canPay cX2_canPay 3 (some .boolean), Cond.fieldLink RX2 9 "NameAuction" "money" "[I", Cond.instanceMethod yX0_isAhead, Cond.selects RX0 yX0_isAhead yX0_isAhead, Cond.code yX0_isAhead cX0_isAhead 3 (some .boolean), Cond.fieldLink RX0 22 "NameAuction$Name" "turns" "[I", Cond.methodLink RX2 81 yX2_pay, Cond.instanceMethod yX2_pay, Cond.selects RX2 yX2_pay yX2_pay, Cond.code yX2_pay cX2_pay 3 none, Cond.fieldLink RX2 119 "NameAuction" "paid" "I", Cond.instanceMethod yX0_leaseTo, Cond.selects RX0 yX0_leaseTo yX0_leaseTo, Cond.code yX0_leaseTo cX0_leaseTo 3 none, Cond.fieldLink RX0 34 "NameAuction$Name" "record" "I", Cond.fieldLink RX0 37 "NameAuction$Name" "lifetime" "I"]
def wsL_pass : List Cond := .codeWith yL_pass cL_pass 4 (some .int) [(0, 9, 12, 15)] :: ((wsL_pass_r1 ++ (wsL_pass_r2 ++ wsL_pass_r3)) ++ wsX20 ++ wsX00 ++ (vx_at0 RX2 146 "java/lang/IllegalArgumentException" ["java/lang/RuntimeException", "java/lang/Exception"]).filter goodWord)
def wsL_lookUp_r1 : List Cond := [Cond.classLink RL 13 "java/lang/IndexOutOfBoundsException", Cond.methodLink RL 62 yX2_lookUp, Cond.instanceMethod yX2_lookUp, Cond.selects RX2 yX2_lookUp yX2_lookUp, Cond.initialized RX2, Cond.code yX2_lookUp cX2_lookUp 4 (some .int), Cond.fieldLink RX2 21 "NameAuction" "resolvers" "[LNameAuction$Resolver;", Cond.fieldLink RX2 44 "NameAuction" "day" "I", Cond.fieldLink RX2 15 "NameAuction" "names" "[LNameAuction$Name;", Cond.methodLink RX2 27 yX2_checkIndex, Cond.static yX2_checkIndex, Cond.code yX2_checkIndex cX2_checkIndex 2 none, Cond.classLink RX2 141 "java/lang/IndexOutOfBoundsException", Cond.initialized "java/lang/IndexOutOfBoundsException", Cond.instanceMethod yX1_isFresh, Cond.initialized RX1, Cond.selects RX1 yX1_isFresh yX1_isFresh, Cond.code yX1_isFresh cX1_isFresh 3 (some .boolean), Cond.fieldLink RX1 9 "NameAuction$Resolver" "kept" "[Z", Cond.fieldLink RX1 22 "NameAuction$Resolver" "takenOn" "[I", Cond.fieldLink RX1 19 "NameAuction$Resolver" "lifetimes" "[I", Cond.instanceMethod yX0_answer, Cond.initialized RX0, Cond.selects RX0 yX0_answer yX0_answer]
def wsL_lookUp_r2 : List Cond := [Cond.code yX0_answer cX0_answer 1 (some .int), Cond.fieldLink RX0 34 "NameAuction$Name" "record" "I", Cond.methodLink RX0 66 yX0_hasRecord, Cond.instanceMethod yX0_hasRecord, Cond.selects RX0 yX0_hasRecord yX0_hasRecord, Cond.code yX0_hasRecord cX0_hasRecord 1 (some .boolean), Cond.fieldLink RX0 9 "NameAuction$Name" "phase" "I", Cond.fieldLink RX0 43 "NameAuction$Name" "phaseBefore" "I", Cond.static yX2_isHeld, Cond.code yX2_isHeld cX2_isHeld 1 (some .boolean), Cond.instanceMethod yX0_answerLifetime, Cond.selects RX0 yX0_answerLifetime yX0_answerLifetime, Cond.code yX0_answerLifetime cX0_answerLifetime 1 (some .int), Cond.fieldLink RX0 37 "NameAuction$Name" "lifetime" "I", Cond.instanceMethod yX1_keep, Cond.selects RX1 yX1_keep yX1_keep, Cond.code yX1_keep cX1_keep 5 none, Cond.fieldLink RX1 15 "NameAuction$Resolver" "answers" "[I"]
def wsL_lookUp : List Cond := .codeWith yL_lookUp cL_lookUp 5 (some .int) [(0, 10, 13, 13)] :: ((wsL_lookUp_r1 ++ wsL_lookUp_r2) ++ wsX20 ++ wsX10 ++ wsX00 ++ (vx_at0 RX2 143 "java/lang/IndexOutOfBoundsException" ["java/lang/RuntimeException", "java/lang/Exception"]).filter goodWord)
def wsL_isStale_r1 : List Cond := [Cond.classLink RL 13 "java/lang/IndexOutOfBoundsException", Cond.methodLink RL 65 yX2_isStale, Cond.instanceMethod yX2_isStale, Cond.selects RX2 yX2_isStale yX2_isStale, Cond.initialized RX2, Cond.code yX2_isStale cX2_isStale 4 (some .boolean), Cond.fieldLink RX2 21 "NameAuction" "resolvers" "[LNameAuction$Resolver;", Cond.fieldLink RX2 44 "NameAuction" "day" "I", Cond.fieldLink RX2 15 "NameAuction" "names" "[LNameAuction$Name;", Cond.methodLink RX2 27 yX2_checkIndex, Cond.static yX2_checkIndex, Cond.code yX2_checkIndex cX2_checkIndex 2 none, Cond.classLink RX2 141 "java/lang/IndexOutOfBoundsException", Cond.initialized "java/lang/IndexOutOfBoundsException", Cond.instanceMethod yX1_isFresh, Cond.initialized RX1, Cond.selects RX1 yX1_isFresh yX1_isFresh, Cond.code yX1_isFresh cX1_isFresh 3 (some .boolean), Cond.fieldLink RX1 9 "NameAuction$Resolver" "kept" "[Z", Cond.fieldLink RX1 22 "NameAuction$Resolver" "takenOn" "[I", Cond.fieldLink RX1 19 "NameAuction$Resolver" "lifetimes" "[I", Cond.instanceMethod yX0_answer, Cond.initialized RX0, Cond.selects RX0 yX0_answer yX0_answer]
def wsL_isStale_r2 : List Cond := [Cond.code yX0_answer cX0_answer 1 (some .int), Cond.fieldLink RX0 34 "NameAuction$Name" "record" "I", Cond.methodLink RX0 66 yX0_hasRecord, Cond.instanceMethod yX0_hasRecord, Cond.selects RX0 yX0_hasRecord yX0_hasRecord, Cond.code yX0_hasRecord cX0_hasRecord 1 (some .boolean), Cond.fieldLink RX0 9 "NameAuction$Name" "phase" "I", Cond.fieldLink RX0 43 "NameAuction$Name" "phaseBefore" "I", Cond.static yX2_isHeld, Cond.code yX2_isHeld cX2_isHeld 1 (some .boolean)]
def wsL_isStale : List Cond := .codeWith yL_isStale cL_isStale 5 (some .int) [(0, 17, 20, 13)] :: ((wsL_isStale_r1 ++ wsL_isStale_r2) ++ wsX20 ++ wsX10 ++ wsX00 ++ (vx_at0 RX2 143 "java/lang/IndexOutOfBoundsException" ["java/lang/RuntimeException", "java/lang/Exception"]).filter goodWord)
def wsL_flush : List Cond := .codeWith yL_flush cL_flush 4 (some .int) [(0, 9, 12, 13)] :: ([.classLink RL 13 "java/lang/IndexOutOfBoundsException", .methodLink RL 69 yX2_flush, .instanceMethod yX2_flush, .selects RX2 yX2_flush yX2_flush, .initialized RX2, .code yX2_flush cX2_flush 2 (some .int), .fieldLink RX2 21 "NameAuction" "resolvers" "[LNameAuction$Resolver;", .methodLink RX2 27 yX2_checkIndex, .static yX2_checkIndex, .code yX2_checkIndex cX2_checkIndex 2 none, .classLink RX2 141 "java/lang/IndexOutOfBoundsException", .initialized "java/lang/IndexOutOfBoundsException", .instanceMethod yX1_forgetAll, .initialized RX1, .selects RX1 yX1_forgetAll yX1_forgetAll, .code yX1_forgetAll cX1_forgetAll 3 (some .int), .fieldLink RX1 9 "NameAuction$Resolver" "kept" "[Z"] ++ wsX20 ++ wsX10 ++ (vx_at0 RX2 143 "java/lang/IndexOutOfBoundsException" ["java/lang/RuntimeException", "java/lang/Exception"]).filter goodWord)
def wsL_law0_r1 : List Cond := [Cond.classLink RL 8 RX2, Cond.instantiable RX2 6, Cond.initialized RX2, Cond.classLink RL 73 RX3, Cond.instantiable RX3 18, Cond.initialized RX3, Cond.arrayClass .long, Cond.methodLink RL 72 yX2_init, Cond.instanceMethod yX2_init, Cond.code yX2_init cX2_init 2 none, Cond.methodLink RX2 1 objectInit, Cond.instanceMethod objectInit, Cond.code objectInit ⟨#[0xb1]⟩ 1 none, Cond.arrayClass .int, Cond.fieldLink RX2 9 "NameAuction" "money" "[I", Cond.classLink RX2 13 RX0, Cond.fieldLink RX2 15 "NameAuction" "names" "[LNameAuction$Name;", Cond.classLink RX2 19 RX1, Cond.fieldLink RX2 21 "NameAuction" "resolvers" "[LNameAuction$Resolver;", Cond.instantiable RX0 11, Cond.initialized RX0, Cond.instantiable RX1 4, Cond.initialized RX1, Cond.instanceMethod yX0_init]
def wsL_law0_r2 : List Cond := [Cond.code yX0_init cX0_init 1 none, Cond.methodLink RX0 3 objectInit, Cond.fieldLink RX0 9 "NameAuction$Name" "phase" "I", Cond.fieldLink RX0 15 "NameAuction$Name" "holder" "I", Cond.fieldLink RX0 18 "NameAuction$Name" "amounts" "[I", Cond.fieldLink RX0 22 "NameAuction$Name" "turns" "[I", Cond.instanceMethod yX1_init, Cond.code yX1_init cX1_init 1 none, Cond.methodLink RX1 3 objectInit, Cond.arrayClass .boolean, Cond.fieldLink RX1 9 "NameAuction$Resolver" "kept" "[Z", Cond.fieldLink RX1 15 "NameAuction$Resolver" "answers" "[I", Cond.fieldLink RX1 19 "NameAuction$Resolver" "lifetimes" "[I", Cond.fieldLink RX1 22 "NameAuction$Resolver" "takenOn" "[I", Cond.methodLink RL 75 yX3_init, Cond.instanceMethod yX3_init, Cond.code yX3_init cX3_init 2 none, Cond.methodLink RX3 1 objectInit, Cond.fieldLink RX3 7 "NameAuctionModel" "funds" "[I", Cond.fieldLink RX3 13 "NameAuctionModel" "state" "[I", Cond.fieldLink RX3 16 "NameAuctionModel" "owner" "[I", Cond.fieldLink RX3 19 "NameAuctionModel" "day" "[I", Cond.fieldLink RX3 22 "NameAuctionModel" "record" "[I", Cond.fieldLink RX3 25 "NameAuctionModel" "lifetime" "[I"]
def wsL_law0_r3 : List Cond := [Cond.fieldLink RX3 28 "NameAuctionModel" "challenger" "[I", Cond.fieldLink RX3 31 "NameAuctionModel" "since" "[I", Cond.fieldLink RX3 34 "NameAuctionModel" "before" "[I", Cond.fieldLink RX3 37 "NameAuctionModel" "amount" "[I", Cond.fieldLink RX3 40 "NameAuctionModel" "came" "[I", Cond.fieldLink RX3 43 "NameAuctionModel" "taken" "[I", Cond.fieldLink RX3 46 "NameAuctionModel" "answer" "[I", Cond.fieldLink RX3 49 "NameAuctionModel" "lives" "[I", Cond.methodLink RL 76 yL_deposit, Cond.static yL_deposit, Cond.initialized RL, Cond.codeWith yL_deposit cL_deposit 5 (some .int) [(0, 10, 13, 13), (0, 10, 17, 15)], Cond.classLink RL 13 "java/lang/IndexOutOfBoundsException", Cond.classLink RL 15 "java/lang/IllegalArgumentException", Cond.methodLink RL 7 yX2_deposit, Cond.instanceMethod yX2_deposit, Cond.selects RX2 yX2_deposit yX2_deposit, Cond.code yX2_deposit cX2_deposit 3 (some .int), Cond.constant RX2 31 (100000), Cond.methodLink RX2 27 yX2_checkIndex, Cond.static yX2_checkIndex, Cond.code yX2_checkIndex cX2_checkIndex 2 none, Cond.classLink RX2 141 "java/lang/IndexOutOfBoundsException", Cond.initialized "java/lang/IndexOutOfBoundsException"]
def wsL_law0_r4 : List Cond := [Cond.methodLink RX2 32 yX2_checkRange, Cond.static yX2_checkRange, Cond.code yX2_checkRange cX2_checkRange 3 none, Cond.classLink RX2 144 "java/lang/IllegalArgumentException", Cond.initialized "java/lang/IllegalArgumentException", Cond.methodLink RL 81 yX3_deposit, Cond.instanceMethod yX3_deposit, Cond.selects RX3 yX3_deposit yX3_deposit, Cond.code yX3_deposit cX3_deposit 3 (some .int), Cond.constant RX3 64 (100000), Cond.methodLink RX3 60 yX3_isOwner, Cond.static yX3_isOwner, Cond.code yX3_isOwner cX3_isOwner 1 (some .boolean), Cond.methodLink RX3 56 yX3_isIn, Cond.static yX3_isIn, Cond.code yX3_isIn cX3_isIn 3 (some .boolean), Cond.methodLink RX3 65 yX3_fails, Cond.instanceMethod yX3_fails, Cond.selects RX3 yX3_fails yX3_fails, Cond.code yX3_fails cX3_fails 2 (some .boolean), Cond.fieldLink RX3 52 "NameAuctionModel" "thrown" "I", Cond.methodLink RL 82 yX3_thrown, Cond.instanceMethod yX3_thrown, Cond.selects RX3 yX3_thrown yX3_thrown]
def wsL_law0_r5 : List Cond := [Cond.code yX3_thrown cX3_thrown 1 (some .int), Cond.methodLink RL 86 yL_funds, Cond.static yL_funds, Cond.codeWith yL_funds cL_funds 4 (some .int) [(0, 9, 12, 13)], Cond.methodLink RL 17 yX2_funds, Cond.instanceMethod yX2_funds, Cond.selects RX2 yX2_funds yX2_funds, Cond.code yX2_funds cX2_funds 2 (some .int), Cond.methodLink RL 89 yX3_funds, Cond.instanceMethod yX3_funds, Cond.selects RX3 yX3_funds yX3_funds, Cond.code yX3_funds cX3_funds 2 (some .int), Cond.methodLink RL 90 yL_bid, Cond.static yL_bid, Cond.codeWith yL_bid cL_bid 6 (some .int) [(0, 12, 15, 13), (0, 12, 19, 15), (0, 12, 23, 25)], Cond.classLink RL 25 "java/lang/IllegalStateException", Cond.methodLink RL 21 yX2_bid, Cond.instanceMethod yX2_bid, Cond.selects RX2 yX2_bid yX2_bid, Cond.code yX2_bid cX2_bid 5 (some .int), Cond.fieldLink RX2 44 "NameAuction" "day" "I", Cond.fieldLink RX2 51 "NameAuction" "bidsMade" "I", Cond.methodLink RX2 40 yX2_checkPossible, Cond.static yX2_checkPossible]
def wsL_law0_r6 : List Cond := [Cond.code yX2_checkPossible cX2_checkPossible 1 none, Cond.classLink RX2 147 "java/lang/IllegalStateException", Cond.initialized "java/lang/IllegalStateException", Cond.instanceMethod yX0_beginAuction, Cond.selects RX0 yX0_beginAuction yX0_beginAuction, Cond.code yX0_beginAuction cX0_beginAuction 2 none, Cond.fieldLink RX0 25 "NameAuction$Name" "closing" "I", Cond.methodLink RL 93 yX3_bid, Cond.instanceMethod yX3_bid, Cond.selects RX3 yX3_bid yX3_bid, Cond.code yX3_bid cX3_bid 5 (some .int), Cond.fieldLink RX3 71 "NameAuctionModel" "today" "I", Cond.fieldLink RX3 74 "NameAuctionModel" "clock" "I", Cond.methodLink RX3 68 yX3_isName, Cond.static yX3_isName, Cond.code yX3_isName cX3_isName 1 (some .boolean), Cond.methodLink RL 94 yL_bids, Cond.static yL_bids, Cond.codeWith yL_bids cL_bids 4 (some .int) [(0, 9, 12, 13)], Cond.methodLink RL 27 yX2_bids, Cond.instanceMethod yX2_bids, Cond.selects RX2 yX2_bids yX2_bids, Cond.code yX2_bids cX2_bids 2 (some .int), Cond.instanceMethod yX0_countBids]
def wsL_law0_r7 : List Cond := [Cond.selects RX0 yX0_countBids yX0_countBids, Cond.code yX0_countBids cX0_countBids 3 (some .int), Cond.methodLink RL 96 yX3_bids, Cond.instanceMethod yX3_bids, Cond.selects RX3 yX3_bids yX3_bids, Cond.code yX3_bids cX3_bids 4 (some .int), Cond.methodLink RL 97 yL_renew, Cond.static yL_renew, Cond.codeWith yL_renew cL_renew 5 (some .int) [(0, 10, 13, 13), (0, 10, 17, 15), (0, 10, 21, 25)], Cond.methodLink RL 30 yX2_renew, Cond.instanceMethod yX2_renew, Cond.selects RX2 yX2_renew yX2_renew, Cond.code yX2_renew cX2_renew 6 (some .int), Cond.methodLink RX2 70 yX2_isHeld, Cond.static yX2_isHeld, Cond.code yX2_isHeld cX2_isHeld 1 (some .boolean), Cond.methodLink RX2 77 yX2_canPay, Cond.instanceMethod yX2_canPay, Cond.selects RX2 yX2_canPay yX2_canPay, Cond.code yX2_canPay cX2_canPay 3 (some .boolean), Cond.methodLink RX2 81 yX2_pay, Cond.instanceMethod yX2_pay, Cond.selects RX2 yX2_pay yX2_pay, Cond.code yX2_pay cX2_pay 3 none]
def wsL_law0_r8 : List Cond := [Cond.fieldLink RX2 119 "NameAuction" "paid" "I", Cond.methodLink RL 99 yX3_renew, Cond.instanceMethod yX3_renew, Cond.selects RX3 yX3_renew yX3_renew, Cond.code yX3_renew cX3_renew 6 (some .int), Cond.methodLink RX3 88 yX3_pays, Cond.instanceMethod yX3_pays, Cond.selects RX3 yX3_pays yX3_pays, Cond.code yX3_pays cX3_pays 3 none, Cond.fieldLink RX3 77 "NameAuctionModel" "takings" "I", Cond.methodLink RL 100 yL_redeem, Cond.static yL_redeem, Cond.codeWith yL_redeem cL_redeem 4 (some .int) [(0, 9, 12, 13), (0, 9, 15, 25)], Cond.methodLink RL 33 yX2_redeem, Cond.instanceMethod yX2_redeem, Cond.selects RX2 yX2_redeem yX2_redeem, Cond.code yX2_redeem cX2_redeem 3 (some .int), Cond.instanceMethod yX0_leaseTo, Cond.selects RX0 yX0_leaseTo yX0_leaseTo, Cond.code yX0_leaseTo cX0_leaseTo 3 none, Cond.fieldLink RX0 31 "NameAuction$Name" "end" "I", Cond.fieldLink RX0 34 "NameAuction$Name" "record" "I", Cond.fieldLink RX0 37 "NameAuction$Name" "lifetime" "I", Cond.methodLink RX0 28 yX0_dropBids]
def wsL_law0_r9 : List Cond := [Cond.instanceMethod yX0_dropBids, Cond.selects RX0 yX0_dropBids yX0_dropBids, Cond.code yX0_dropBids cX0_dropBids 1 none, Cond.methodLink RX0 56 yJ7_fill_53178, Cond.static yJ7_fill_53178, Cond.initialized RJ7, Cond.code yJ7_fill_53178 cJ7_fill_53178 4 none, Cond.methodLink RL 102 yX3_redeem, Cond.instanceMethod yX3_redeem, Cond.selects RX3 yX3_redeem yX3_redeem, Cond.code yX3_redeem cX3_redeem 4 (some .int), Cond.methodLink RX3 92 yX3_leases, Cond.instanceMethod yX3_leases, Cond.selects RX3 yX3_leases yX3_leases, Cond.code yX3_leases cX3_leases 3 none, Cond.methodLink RL 103 yL_setRecord, Cond.static yL_setRecord, Cond.codeWith yL_setRecord cL_setRecord 6 (some .int) [(0, 12, 15, 13), (0, 12, 19, 15), (0, 12, 23, 25)], Cond.methodLink RL 36 yX2_setRecord, Cond.instanceMethod yX2_setRecord, Cond.selects RX2 yX2_setRecord yX2_setRecord, Cond.code yX2_setRecord cX2_setRecord 6 (some .int), Cond.methodLink RL 105 yX3_setRecord, Cond.instanceMethod yX3_setRecord]
def wsL_law0_r10 : List Cond := [Cond.selects RX3 yX3_setRecord yX3_setRecord, Cond.code yX3_setRecord cX3_setRecord 7 (some .int), Cond.methodLink RL 106 yL_state, Cond.static yL_state, Cond.codeWith yL_state cL_state 4 (some .int) [(0, 9, 12, 13)], Cond.methodLink RL 39 yX2_state, Cond.instanceMethod yX2_state, Cond.selects RX2 yX2_state yX2_state, Cond.code yX2_state cX2_state 2 (some .int), Cond.methodLink RL 108 yX3_state, Cond.instanceMethod yX3_state, Cond.selects RX3 yX3_state yX3_state, Cond.code yX3_state cX3_state 2 (some .int), Cond.methodLink RL 109 yL_sign, Cond.static yL_sign, Cond.codeWith yL_sign cL_sign 5 (some .int) [(0, 10, 13, 13)], Cond.methodLink RL 42 yX2_sign, Cond.instanceMethod yX2_sign, Cond.selects RX2 yX2_sign yX2_sign, Cond.code yX2_sign cX2_sign 6 (some .char), Cond.methodLink RX2 93 yX2_wordOf, Cond.static yX2_wordOf, Cond.code yX2_wordOf cX2_wordOf 1 (some (.object "java/lang/String")), Cond.methodLink RX2 97 yJ0_length_8abf5]
def wsL_law0_r11 : List Cond := [Cond.instanceMethod yJ0_length_8abf5, Cond.selects RJ0 yJ0_length_8abf5 yJ0_length_8abf5, Cond.initialized RJ0, Cond.code yJ0_length_8abf5 cJ0_length_8abf5 1 (some .int), Cond.fieldLink RJ0 9 "java/lang/String" "value" "[B", Cond.methodLink RJ0 335 yJ0_coder_7d493, Cond.instanceMethod yJ0_coder_7d493, Cond.selects RJ0 yJ0_coder_7d493 yJ0_coder_7d493, Cond.code yJ0_coder_7d493 cJ0_coder_7d493 1 (some .byte), Cond.fieldLink RJ0 38 "java/lang/String" "COMPACT_STRINGS" "Z", Cond.fieldLink RJ0 15 "java/lang/String" "coder" "B", Cond.methodLink RX2 102 yJ0_charAt_5068e, Cond.instanceMethod yJ0_charAt_5068e, Cond.selects RJ0 yJ0_charAt_5068e yJ0_charAt_5068e, Cond.code yJ0_charAt_5068e cJ0_charAt_5068e 2 (some .char), Cond.methodLink RJ0 492 yJ0_isLatin1_aae02, Cond.instanceMethod yJ0_isLatin1_aae02, Cond.selects RJ0 yJ0_isLatin1_aae02 yJ0_isLatin1_aae02, Cond.code yJ0_isLatin1_aae02 cJ0_isLatin1_aae02 1 (some .boolean), Cond.methodLink RJ0 495 yJ1_charAt_3b067, Cond.static yJ1_charAt_3b067, Cond.initialized RJ1, Cond.code yJ1_charAt_3b067 cJ1_charAt_3b067 2 (some .char), Cond.methodLink RJ1 9 yJ0_checkIndex_df160]
def wsL_law0_r12 : List Cond := [Cond.static yJ0_checkIndex_df160, Cond.code yJ0_checkIndex_df160 cJ0_checkIndex_df160 2 none, Cond.fieldLink RJ0 1053 "jdk/internal/util/Preconditions" "SIOOBE_FORMATTER" "Ljava/util/function/BiFunction;", Cond.methodLink RJ0 1059 yJ3_checkIndex_8e157, Cond.static yJ3_checkIndex_8e157, Cond.initialized RJ3, Cond.code yJ3_checkIndex_8e157 cJ3_checkIndex_8e157 3 (some .int), Cond.methodLink RJ0 498 yJ2_charAt_3b067, Cond.static yJ2_charAt_3b067, Cond.initialized RJ2, Cond.code yJ2_charAt_3b067 cJ2_charAt_3b067 2 (some .char), Cond.methodLink RJ2 67 yJ2_checkIndex_2214a, Cond.static yJ2_checkIndex_2214a, Cond.code yJ2_checkIndex_2214a cJ2_checkIndex_2214a 2 none, Cond.methodLink RJ2 48 yJ2_length_9d52b, Cond.static yJ2_length_9d52b, Cond.code yJ2_length_9d52b cJ2_length_9d52b 1 (some .int), Cond.methodLink RJ2 414 yJ0_checkIndex_df160, Cond.methodLink RJ2 71 yJ2_getChar_3b067, Cond.static yJ2_getChar_3b067, Cond.code yJ2_getChar_3b067 cJ2_getChar_3b067 2 (some .char), Cond.fieldLink RJ2 44 "java/lang/StringUTF16" "$assertionsDisabled" "Z", Cond.fieldLink RJ2 59 "java/lang/StringUTF16" "HI_BYTE_SHIFT" "I", Cond.fieldLink RJ2 63 "java/lang/StringUTF16" "LO_BYTE_SHIFT" "I"]
def wsL_law0_r13 : List Cond := [Cond.methodLink RL 111 yX3_sign, Cond.instanceMethod yX3_sign, Cond.selects RX3 yX3_sign yX3_sign, Cond.code yX3_sign cX3_sign 4 (some .char), Cond.methodLink RX3 99 yX3_signOf, Cond.instanceMethod yX3_signOf, Cond.selects RX3 yX3_signOf yX3_signOf, Cond.code yX3_signOf cX3_signOf 5 (some .char), Cond.methodLink RX3 95 yX3_letter, Cond.static yX3_letter, Cond.code yX3_letter cX3_letter 2 (some .char), Cond.methodLink RL 112 yL_owner, Cond.static yL_owner, Cond.codeWith yL_owner cL_owner 4 (some .int) [(0, 9, 12, 13)], Cond.methodLink RL 46 yX2_owner, Cond.instanceMethod yX2_owner, Cond.selects RX2 yX2_owner yX2_owner, Cond.code yX2_owner cX2_owner 2 (some .int), Cond.methodLink RL 114 yX3_owner, Cond.instanceMethod yX3_owner, Cond.selects RX3 yX3_owner yX3_owner, Cond.code yX3_owner cX3_owner 2 (some .int), Cond.methodLink RL 115 yL_next, Cond.static yL_next]
def wsL_law0_r14 : List Cond := [Cond.codeWith yL_next cL_next 4 (some .int) [(0, 9, 12, 13)], Cond.methodLink RL 49 yX2_next, Cond.instanceMethod yX2_next, Cond.selects RX2 yX2_next yX2_next, Cond.code yX2_next cX2_next 2 (some .int), Cond.instanceMethod yX0_dayOfChange, Cond.selects RX0 yX0_dayOfChange yX0_dayOfChange, Cond.code yX0_dayOfChange cX0_dayOfChange 1 (some .int), Cond.methodLink RL 117 yX3_next, Cond.instanceMethod yX3_next, Cond.selects RX3 yX3_next yX3_next, Cond.code yX3_next cX3_next 2 (some .int), Cond.methodLink RX3 102 yX3_nextOf, Cond.instanceMethod yX3_nextOf, Cond.selects RX3 yX3_nextOf yX3_nextOf, Cond.code yX3_nextOf cX3_nextOf 3 (some .int), Cond.methodLink RL 118 yL_dispute, Cond.static yL_dispute, Cond.codeWith yL_dispute cL_dispute 5 (some .int) [(0, 10, 13, 13), (0, 10, 17, 25)], Cond.methodLink RL 52 yX2_dispute, Cond.instanceMethod yX2_dispute, Cond.selects RX2 yX2_dispute yX2_dispute, Cond.code yX2_dispute cX2_dispute 5 (some .int), Cond.instanceMethod yX0_freeze]
def wsL_law0_r15 : List Cond := [Cond.selects RX0 yX0_freeze yX0_freeze, Cond.code yX0_freeze cX0_freeze 3 none, Cond.fieldLink RX0 43 "NameAuction$Name" "phaseBefore" "I", Cond.fieldLink RX0 46 "NameAuction$Name" "challenger" "I", Cond.fieldLink RX0 49 "NameAuction$Name" "frozenOn" "I", Cond.methodLink RL 120 yX3_dispute, Cond.instanceMethod yX3_dispute, Cond.selects RX3 yX3_dispute yX3_dispute, Cond.code yX3_dispute cX3_dispute 4 (some .int), Cond.methodLink RX3 84 yX3_clears, Cond.instanceMethod yX3_clears, Cond.selects RX3 yX3_clears yX3_clears, Cond.code yX3_clears cX3_clears 3 none, Cond.methodLink RL 121 yL_decide, Cond.static yL_decide, Cond.codeWith yL_decide cL_decide 5 (some .int) [(0, 10, 13, 13), (0, 10, 17, 25)], Cond.methodLink RL 55 yX2_decide, Cond.instanceMethod yX2_decide, Cond.selects RX2 yX2_decide yX2_decide, Cond.code yX2_decide cX2_decide 4 (some .int), Cond.instanceMethod yX0_thaw, Cond.selects RX0 yX0_thaw yX0_thaw, Cond.code yX0_thaw cX0_thaw 3 none, Cond.methodLink RX0 52 yX0_leaseTo]
def wsL_law0_r16 : List Cond := [Cond.methodLink RX0 40 yX0_release, Cond.instanceMethod yX0_release, Cond.selects RX0 yX0_release yX0_release, Cond.code yX0_release cX0_release 1 none, Cond.methodLink RL 124 yX3_decide, Cond.instanceMethod yX3_decide, Cond.selects RX3 yX3_decide yX3_decide, Cond.code yX3_decide cX3_decide 4 (some .int), Cond.methodLink RL 125 yL_pass, Cond.static yL_pass, Cond.codeWith yL_pass cL_pass 4 (some .int) [(0, 9, 12, 15)], Cond.methodLink RL 59 yX2_pass, Cond.instanceMethod yX2_pass, Cond.selects RX2 yX2_pass yX2_pass, Cond.code yX2_pass cX2_pass 4 (some .int), Cond.methodLink RX2 116 yX2_changeNames, Cond.instanceMethod yX2_changeNames, Cond.selects RX2 yX2_changeNames yX2_changeNames, Cond.code yX2_changeNames cX2_changeNames 4 (some .int), Cond.instanceMethod yX0_goOn, Cond.selects RX0 yX0_goOn yX0_goOn, Cond.code yX0_goOn cX0_goOn 1 none, Cond.methodLink RX2 165 yX2_closeAuction, Cond.instanceMethod yX2_closeAuction]
def wsL_law0_r17 : List Cond := [Cond.selects RX2 yX2_closeAuction yX2_closeAuction, Cond.code yX2_closeAuction cX2_closeAuction 4 (some .boolean), Cond.methodLink RX2 169 yX2_bestBidder, Cond.instanceMethod yX2_bestBidder, Cond.selects RX2 yX2_bestBidder yX2_bestBidder, Cond.code yX2_bestBidder cX2_bestBidder 6 (some .int), Cond.instanceMethod yX0_isAhead, Cond.selects RX0 yX0_isAhead yX0_isAhead, Cond.code yX0_isAhead cX0_isAhead 3 (some .boolean), Cond.methodLink RL 127 yX3_pass, Cond.instanceMethod yX3_pass, Cond.selects RX3 yX3_pass yX3_pass, Cond.code yX3_pass cX3_pass 5 (some .int), Cond.methodLink RX3 109 yX3_goesOn, Cond.instanceMethod yX3_goesOn, Cond.selects RX3 yX3_goesOn yX3_goesOn, Cond.code yX3_goesOn cX3_goesOn 3 (some .int), Cond.methodLink RX3 106 yX3_closes, Cond.instanceMethod yX3_closes, Cond.selects RX3 yX3_closes yX3_closes, Cond.code yX3_closes cX3_closes 5 (some .int), Cond.methodLink RX3 80 yX3_bestBut, Cond.instanceMethod yX3_bestBut, Cond.selects RX3 yX3_bestBut yX3_bestBut]
def wsL_law0_r18 : List Cond := [Cond.code yX3_bestBut cX3_bestBut 8 (some .int), Cond.methodLink RL 128 yX2_today, Cond.instanceMethod yX2_today, Cond.selects RX2 yX2_today yX2_today, Cond.code yX2_today cX2_today 1 (some .int), Cond.methodLink RL 131 yX3_today, Cond.instanceMethod yX3_today, Cond.selects RX3 yX3_today yX3_today, Cond.code yX3_today cX3_today 1 (some .int), Cond.methodLink RL 132 yX2_takings, Cond.instanceMethod yX2_takings, Cond.selects RX2 yX2_takings yX2_takings, Cond.code yX2_takings cX2_takings 1 (some .int), Cond.methodLink RL 135 yX3_takings, Cond.instanceMethod yX3_takings, Cond.selects RX3 yX3_takings yX3_takings, Cond.code yX3_takings cX3_takings 1 (some .int), Cond.methodLink RL 136 yL_lookUp, Cond.static yL_lookUp, Cond.codeWith yL_lookUp cL_lookUp 5 (some .int) [(0, 10, 13, 13)], Cond.methodLink RL 62 yX2_lookUp, Cond.instanceMethod yX2_lookUp, Cond.selects RX2 yX2_lookUp yX2_lookUp, Cond.code yX2_lookUp cX2_lookUp 4 (some .int)]
def wsL_law0_r19 : List Cond := [Cond.instanceMethod yX1_isFresh, Cond.selects RX1 yX1_isFresh yX1_isFresh, Cond.code yX1_isFresh cX1_isFresh 3 (some .boolean), Cond.instanceMethod yX0_answer, Cond.selects RX0 yX0_answer yX0_answer, Cond.code yX0_answer cX0_answer 1 (some .int), Cond.methodLink RX0 66 yX0_hasRecord, Cond.instanceMethod yX0_hasRecord, Cond.selects RX0 yX0_hasRecord yX0_hasRecord, Cond.code yX0_hasRecord cX0_hasRecord 1 (some .boolean), Cond.instanceMethod yX0_answerLifetime, Cond.selects RX0 yX0_answerLifetime yX0_answerLifetime, Cond.code yX0_answerLifetime cX0_answerLifetime 1 (some .int), Cond.instanceMethod yX1_keep, Cond.selects RX1 yX1_keep yX1_keep, Cond.code yX1_keep cX1_keep 5 none, Cond.methodLink RL 138 yX3_lookUp, Cond.instanceMethod yX3_lookUp, Cond.selects RX3 yX3_lookUp yX3_lookUp, Cond.code yX3_lookUp cX3_lookUp 4 (some .int), Cond.methodLink RX3 115 yX3_isPlace, Cond.static yX3_isPlace, Cond.code yX3_isPlace cX3_isPlace 2 (some .boolean), Cond.methodLink RX3 119 yX3_isYoung]
def wsL_law0_r20 : List Cond := [Cond.instanceMethod yX3_isYoung, Cond.selects RX3 yX3_isYoung yX3_isYoung, Cond.code yX3_isYoung cX3_isYoung 2 (some .boolean), Cond.methodLink RX3 122 yX3_answerOf, Cond.instanceMethod yX3_answerOf, Cond.selects RX3 yX3_answerOf yX3_answerOf, Cond.code yX3_answerOf cX3_answerOf 2 (some .int), Cond.methodLink RX3 112 yX3_hasRecord, Cond.instanceMethod yX3_hasRecord, Cond.selects RX3 yX3_hasRecord yX3_hasRecord, Cond.code yX3_hasRecord cX3_hasRecord 2 (some .boolean), Cond.methodLink RL 139 yL_isStale, Cond.static yL_isStale, Cond.codeWith yL_isStale cL_isStale 5 (some .int) [(0, 17, 20, 13)], Cond.methodLink RL 65 yX2_isStale, Cond.instanceMethod yX2_isStale, Cond.selects RX2 yX2_isStale yX2_isStale, Cond.code yX2_isStale cX2_isStale 4 (some .boolean), Cond.methodLink RL 141 yX3_isStale, Cond.instanceMethod yX3_isStale, Cond.selects RX3 yX3_isStale yX3_isStale, Cond.code yX3_isStale cX3_isStale 4 (some .boolean), Cond.methodLink RL 142 yL_flush, Cond.static yL_flush]
def wsL_law0_r21 : List Cond := [Cond.codeWith yL_flush cL_flush 4 (some .int) [(0, 9, 12, 13)], Cond.methodLink RL 69 yX2_flush, Cond.instanceMethod yX2_flush, Cond.selects RX2 yX2_flush yX2_flush, Cond.code yX2_flush cX2_flush 2 (some .int), Cond.instanceMethod yX1_forgetAll, Cond.selects RX1 yX1_forgetAll yX1_forgetAll, Cond.code yX1_forgetAll cX1_forgetAll 3 (some .int), Cond.methodLink RL 144 yX3_flush, Cond.instanceMethod yX3_flush, Cond.selects RX3 yX3_flush yX3_flush, Cond.code yX3_flush cX3_flush 4 (some .int)]
def wsL_law0 : List Cond := (wsL_law0_r1 ++ (wsL_law0_r2 ++ (wsL_law0_r3 ++ (wsL_law0_r4 ++ (wsL_law0_r5 ++ (wsL_law0_r6 ++ (wsL_law0_r7 ++ (wsL_law0_r8 ++ (wsL_law0_r9 ++ (wsL_law0_r10 ++ (wsL_law0_r11 ++ (wsL_law0_r12 ++ (wsL_law0_r13 ++ (wsL_law0_r14 ++ (wsL_law0_r15 ++ (wsL_law0_r16 ++ (wsL_law0_r17 ++ (wsL_law0_r18 ++ (wsL_law0_r19 ++ (wsL_law0_r20 ++ wsL_law0_r21)))))))))))))))))))) ++ wsX20 ++ wsX30 ++ wsX00 ++ wsX10 ++ ([] : List Cond)
def wsL_law : List Cond := wsL_law0 ++ (vx_at0 RX2 143 "java/lang/IndexOutOfBoundsException" ["java/lang/RuntimeException", "java/lang/Exception"]).filter goodWord ++ (vx_at0 RX2 146 "java/lang/IllegalArgumentException" ["java/lang/RuntimeException", "java/lang/Exception"]).filter goodWord ++ (vx_at0 RX2 149 "java/lang/IllegalStateException" ["java/lang/RuntimeException", "java/lang/Exception"]).filter goodWord
set_option maxRecDepth 20000 in
theorem wsL_law0_r1_in : ∀ w ∈ wsL_law0_r1, w ∈ lw_tbl := fun w h => (goodIn_p wsL_law0_r1 [54, 57] (by decide +kernel) (by decide +kernel) w h).1
set_option maxRecDepth 20000 in
theorem wsL_law0_r2_in : ∀ w ∈ wsL_law0_r2, w ∈ lw_tbl := fun w h => (goodIn_p wsL_law0_r2 [65, 113, 537] (by decide +kernel) (by decide +kernel) w h).1
set_option maxRecDepth 20000 in
theorem wsL_law0_r3_in : ∀ w ∈ wsL_law0_r3, w ∈ lw_tbl := fun w h => (goodIn_p wsL_law0_r3 [165, 168] (by decide +kernel) (by decide +kernel) w h).1
set_option maxRecDepth 20000 in
theorem wsL_law0_r4_in : ∀ w ∈ wsL_law0_r4, w ∈ lw_tbl := fun w h => (goodIn_p wsL_law0_r4 [235, 601, 604, 607, 612] (by decide +kernel) (by decide +kernel) w h).1
set_option maxRecDepth 20000 in
theorem wsL_law0_r5_in : ∀ w ∈ wsL_law0_r5, w ∈ lw_tbl := fun w h => (goodIn_p wsL_law0_r5 [597, 257, 616, 265] (by decide +kernel) (by decide +kernel) w h).1
set_option maxRecDepth 20000 in
theorem wsL_law0_r6_in : ∀ w ∈ wsL_law0_r6, w ∈ lw_tbl := fun w h => (goodIn_p wsL_law0_r6 [268, 287, 620, 623, 294] (by decide +kernel) (by decide +kernel) w h).1
set_option maxRecDepth 20000 in
theorem wsL_law0_r7_in : ∀ w ∈ wsL_law0_r7, w ∈ lw_tbl := fun w h => (goodIn_p wsL_law0_r7 [298, 627, 305, 308, 312, 316] (by decide +kernel) (by decide +kernel) w h).1
set_option maxRecDepth 20000 in
theorem wsL_law0_r8_in : ∀ w ∈ wsL_law0_r8, w ∈ lw_tbl := fun w h => (goodIn_p wsL_law0_r8 [631, 635, 323, 327] (by decide +kernel) (by decide +kernel) w h).1
set_option maxRecDepth 20000 in
theorem wsL_law0_r9_in : ∀ w ∈ wsL_law0_r9, w ∈ lw_tbl := fun w h => (goodIn_p wsL_law0_r9 [331, 334, 639, 643, 341] (by decide +kernel) (by decide +kernel) w h).1
set_option maxRecDepth 20000 in
theorem wsL_law0_r10_in : ∀ w ∈ wsL_law0_r10, w ∈ lw_tbl := fun w h => (goodIn_p wsL_law0_r10 [647, 348, 651, 355, 358] (by decide +kernel) (by decide +kernel) w h).1
set_option maxRecDepth 20000 in
theorem wsL_law0_r11_in : ∀ w ∈ wsL_law0_r11, w ∈ lw_tbl := fun w h => (goodIn_p wsL_law0_r11 [368, 372, 378, 382, 385] (by decide +kernel) (by decide +kernel) w h).1
set_option maxRecDepth 20000 in
theorem wsL_law0_r12_in : ∀ w ∈ wsL_law0_r12, w ∈ lw_tbl := fun w h => (goodIn_p wsL_law0_r12 [388, 393, 396, 399, 402, 406] (by decide +kernel) (by decide +kernel) w h).1
set_option maxRecDepth 20000 in
theorem wsL_law0_r13_in : ∀ w ∈ wsL_law0_r13, w ∈ lw_tbl := fun w h => (goodIn_p wsL_law0_r13 [655, 659, 662, 420, 666] (by decide +kernel) (by decide +kernel) w h).1
set_option maxRecDepth 20000 in
theorem wsL_law0_r14_in : ∀ w ∈ wsL_law0_r14, w ∈ lw_tbl := fun w h => (goodIn_p wsL_law0_r14 [427, 431, 670, 674, 438] (by decide +kernel) (by decide +kernel) w h).1
set_option maxRecDepth 20000 in
theorem wsL_law0_r15_in : ∀ w ∈ wsL_law0_r15, w ∈ lw_tbl := fun w h => (goodIn_p wsL_law0_r15 [442, 678, 682, 449, 453] (by decide +kernel) (by decide +kernel) w h).1
set_option maxRecDepth 20000 in
theorem wsL_law0_r16_in : ∀ w ∈ wsL_law0_r16, w ∈ lw_tbl := fun w h => (goodIn_p wsL_law0_r16 [458, 686, 465, 469, 473] (by decide +kernel) (by decide +kernel) w h).1
set_option maxRecDepth 20000 in
theorem wsL_law0_r17_in : ∀ w ∈ wsL_law0_r17, w ∈ lw_tbl := fun w h => (goodIn_p wsL_law0_r17 [477, 481, 485, 690, 694, 698] (by decide +kernel) (by decide +kernel) w h).1
set_option maxRecDepth 20000 in
theorem wsL_law0_r18_in : ∀ w ∈ wsL_law0_r18, w ∈ lw_tbl := fun w h => (goodIn_p wsL_law0_r18 [702, 152, 706, 156, 710, 493] (by decide +kernel) (by decide +kernel) w h).1
set_option maxRecDepth 20000 in
theorem wsL_law0_r19_in : ∀ w ∈ wsL_law0_r19, w ∈ lw_tbl := fun w h => (goodIn_p wsL_law0_r19 [497, 501, 505, 510, 514, 714, 717] (by decide +kernel) (by decide +kernel) w h).1
set_option maxRecDepth 20000 in
theorem wsL_law0_r20_in : ∀ w ∈ wsL_law0_r20, w ∈ lw_tbl := fun w h => (goodIn_p wsL_law0_r20 [721, 725, 729, 521, 733] (by decide +kernel) (by decide +kernel) w h).1
set_option maxRecDepth 20000 in
theorem wsL_law0_r21_in : ∀ w ∈ wsL_law0_r21, w ∈ lw_tbl := fun w h => (goodIn_p wsL_law0_r21 [528, 532, 737] (by decide +kernel) (by decide +kernel) w h).1
set_option maxRecDepth 20000 in
theorem wsX20_in9 : ∀ w ∈ wsX20, w ∈ lw_tbl := by decide +kernel
set_option maxRecDepth 20000 in
theorem wsX30_in9 : ∀ w ∈ wsX30, w ∈ lw_tbl := by decide +kernel
set_option maxRecDepth 20000 in
theorem wsX00_in9 : ∀ w ∈ wsX00, w ∈ lw_tbl := by decide +kernel
set_option maxRecDepth 20000 in
theorem wsX10_in9 : ∀ w ∈ wsX10, w ∈ lw_tbl := by decide +kernel
theorem wsL_law_in0 : ∀ w ∈ wsL_law0, w ∈ lw_tbl := by
  intro w h
  have e : wsL_law0 = (wsL_law0_r1 ++ (wsL_law0_r2 ++ (wsL_law0_r3 ++ (wsL_law0_r4 ++ (wsL_law0_r5 ++ (wsL_law0_r6 ++ (wsL_law0_r7 ++ (wsL_law0_r8 ++ (wsL_law0_r9 ++ (wsL_law0_r10 ++ (wsL_law0_r11 ++ (wsL_law0_r12 ++ (wsL_law0_r13 ++ (wsL_law0_r14 ++ (wsL_law0_r15 ++ (wsL_law0_r16 ++ (wsL_law0_r17 ++ (wsL_law0_r18 ++ (wsL_law0_r19 ++ (wsL_law0_r20 ++ (wsL_law0_r21))))))))))))))))))))) ++ wsX20 ++ wsX30 ++ wsX00 ++ wsX10 ++ ([] : List Cond) := rfl
  rw [e] at h
  simp only [List.mem_append] at h
  rcases h with ((((h | h) | h) | h) | h) | h
  · rcases h with h | h | h | h | h | h | h | h | h | h | h | h | h | h | h | h | h | h | h | h | h
    · exact wsL_law0_r1_in w h
    · exact wsL_law0_r2_in w h
    · exact wsL_law0_r3_in w h
    · exact wsL_law0_r4_in w h
    · exact wsL_law0_r5_in w h
    · exact wsL_law0_r6_in w h
    · exact wsL_law0_r7_in w h
    · exact wsL_law0_r8_in w h
    · exact wsL_law0_r9_in w h
    · exact wsL_law0_r10_in w h
    · exact wsL_law0_r11_in w h
    · exact wsL_law0_r12_in w h
    · exact wsL_law0_r13_in w h
    · exact wsL_law0_r14_in w h
    · exact wsL_law0_r15_in w h
    · exact wsL_law0_r16_in w h
    · exact wsL_law0_r17_in w h
    · exact wsL_law0_r18_in w h
    · exact wsL_law0_r19_in w h
    · exact wsL_law0_r20_in w h
    · exact wsL_law0_r21_in w h
  · exact wsX20_in9 w h
  · exact wsX30_in9 w h
  · exact wsX00_in9 w h
  · exact wsX10_in9 w h
  · exact absurd h List.not_mem_nil
theorem wsL_law_x0 : ∀ w ∈ (vx_at0 RX2 143 "java/lang/IndexOutOfBoundsException" ["java/lang/RuntimeException", "java/lang/Exception"]).filter goodWord, w ∈ lw_tbl := by decide +kernel
theorem wsL_law_x1 : ∀ w ∈ (vx_at0 RX2 146 "java/lang/IllegalArgumentException" ["java/lang/RuntimeException", "java/lang/Exception"]).filter goodWord, w ∈ lw_tbl := by decide +kernel
theorem wsL_law_x2 : ∀ w ∈ (vx_at0 RX2 149 "java/lang/IllegalStateException" ["java/lang/RuntimeException", "java/lang/Exception"]).filter goodWord, w ∈ lw_tbl := by decide +kernel
theorem wsL_law_in : ∀ w ∈ wsL_law, w ∈ lw_tbl := fun w h => (List.mem_append.mp h).elim (fun h => (List.mem_append.mp h).elim (fun h => (List.mem_append.mp h).elim (fun h => wsL_law_in0 w h) (fun h => wsL_law_x0 w h)) (fun h => wsL_law_x1 w h)) (fun h => wsL_law_x2 w h)
theorem inlX0 : ∀ w ∈ wsX00, w ∈ wsL_law := fun _ h => List.mem_append_left _ (List.mem_append_left _ (List.mem_append_left _ (List.mem_append_left _ (List.mem_append_left _ (List.mem_append_right _ h)))))
theorem inX0 : ∀ w ∈ wsX00, w ∈ lw_tbl := fun w h => wsL_law_in w (inlX0 w h)
theorem inlX1 : ∀ w ∈ wsX10, w ∈ wsL_law := fun _ h => List.mem_append_left _ (List.mem_append_left _ (List.mem_append_left _ (List.mem_append_left _ (List.mem_append_right _ h))))
theorem inX1 : ∀ w ∈ wsX10, w ∈ lw_tbl := fun w h => wsL_law_in w (inlX1 w h)
theorem inlX2 : ∀ w ∈ wsX20, w ∈ wsL_law := fun _ h => List.mem_append_left _ (List.mem_append_left _ (List.mem_append_left _ (List.mem_append_left _ (List.mem_append_left _ (List.mem_append_left _ (List.mem_append_left _ (List.mem_append_right _ h)))))))
theorem inX2 : ∀ w ∈ wsX20, w ∈ lw_tbl := fun w h => wsL_law_in w (inlX2 w h)
theorem inlX3 : ∀ w ∈ wsX30, w ∈ wsL_law := fun _ h => List.mem_append_left _ (List.mem_append_left _ (List.mem_append_left _ (List.mem_append_left _ (List.mem_append_left _ (List.mem_append_left _ (List.mem_append_right _ h))))))
theorem inX3 : ∀ w ∈ wsX30, w ∈ lw_tbl := fun w h => wsL_law_in w (inlX3 w h)
theorem inJx145de : ∀ w ∈ wsJx145de0, w ∈ lw_tbl := by decide +kernel
theorem inJx9f9b0 : ∀ w ∈ wsJx9f9b00, w ∈ lw_tbl := by decide +kernel
theorem inJxb160c : ∀ w ∈ wsJxb160c0, w ∈ lw_tbl := by decide +kernel
theorem inJ0 : ∀ w ∈ wsJ00, w ∈ lw_tbl := by decide +kernel
theorem inJ1 : ∀ w ∈ wsJ10, w ∈ lw_tbl := by decide +kernel
theorem inJ2 : ∀ w ∈ wsJ20, w ∈ lw_tbl := by decide +kernel
theorem inJxfd54e : ∀ w ∈ wsJxfd54e0, w ∈ lw_tbl := by decide +kernel
theorem inJx3cf43 : ∀ w ∈ wsJx3cf430, w ∈ lw_tbl := by decide +kernel
theorem inJ7 : ∀ w ∈ wsJ70, w ∈ lw_tbl := by decide +kernel
theorem inJ3 : ∀ w ∈ wsJ30, w ∈ lw_tbl := by decide +kernel
end
section
theorem dX0_init_0 : decode cX0_init 0 = .ok (.aload_n 0, 1) := by decide +kernel
theorem dX0_init_1 : decode cX0_init 1 = .ok (.invokespecial 3, 3) := by decide +kernel
theorem dX0_init_4 : decode cX0_init 4 = .ok (.aload_n 0, 1) := by decide +kernel
theorem dX0_init_5 : decode cX0_init 5 = .ok (.iconst 0, 1) := by decide +kernel
theorem dX0_init_6 : decode cX0_init 6 = .ok (.putfield 9, 3) := by decide +kernel
theorem dX0_init_9 : decode cX0_init 9 = .ok (.aload_n 0, 1) := by decide +kernel
theorem dX0_init_10 : decode cX0_init 10 = .ok (.iconst (-1), 1) := by decide +kernel
theorem dX0_init_11 : decode cX0_init 11 = .ok (.putfield 15, 3) := by decide +kernel
theorem dX0_init_14 : decode cX0_init 14 = .ok (.aload_n 0, 1) := by decide +kernel
theorem dX0_init_15 : decode cX0_init 15 = .ok (.bipush 6, 2) := by decide +kernel
theorem dX0_init_17 : decode cX0_init 17 = .ok (.newarray .int, 2) := by decide +kernel
theorem dX0_init_19 : decode cX0_init 19 = .ok (.putfield 18, 3) := by decide +kernel
theorem dX0_init_22 : decode cX0_init 22 = .ok (.aload_n 0, 1) := by decide +kernel
theorem dX0_init_23 : decode cX0_init 23 = .ok (.bipush 6, 2) := by decide +kernel
theorem dX0_init_25 : decode cX0_init 25 = .ok (.newarray .int, 2) := by decide +kernel
theorem dX0_init_27 : decode cX0_init 27 = .ok (.putfield 22, 3) := by decide +kernel
theorem dX0_init_30 : decode cX0_init 30 = .ok (.return_, 1) := by decide +kernel
theorem dX0_beginAuction_0 : decode cX0_beginAuction 0 = .ok (.aload_n 0, 1) := by decide +kernel
theorem dX0_beginAuction_1 : decode cX0_beginAuction 1 = .ok (.iconst 1, 1) := by decide +kernel
theorem dX0_beginAuction_2 : decode cX0_beginAuction 2 = .ok (.putfield 9, 3) := by decide +kernel
theorem dX0_beginAuction_5 : decode cX0_beginAuction 5 = .ok (.aload_n 0, 1) := by decide +kernel
theorem dX0_beginAuction_6 : decode cX0_beginAuction 6 = .ok (.iload_n 1, 1) := by decide +kernel
theorem dX0_beginAuction_7 : decode cX0_beginAuction 7 = .ok (.iconst 5, 1) := by decide +kernel
theorem dX0_beginAuction_8 : decode cX0_beginAuction 8 = .ok (.iadd, 1) := by decide +kernel
theorem dX0_beginAuction_9 : decode cX0_beginAuction 9 = .ok (.putfield 25, 3) := by decide +kernel
theorem dX0_beginAuction_12 : decode cX0_beginAuction 12 = .ok (.return_, 1) := by decide +kernel
set_option maxRecDepth 20000 in
theorem ggX0_leaseTo_X0_dropBids : GoodIn wsX0_leaseTo wsX0_dropBids := goodIn_r _ [10, 11, 12, 13, 14, 15, 16, 17, 18, 19, 20, 21, 22, 23, 24, 25, 26] (by decide +kernel) (by decide +kernel)
set_option maxRecDepth 20000 in
theorem gX0_leaseTo_X0_dropBids : GoodIn wsX0_leaseTo (wsV RX0 28 RX0 yX0_dropBids wsX0_dropBids) := goodIn_app (goodIn_of _ (by decide +kernel)) ggX0_leaseTo_X0_dropBids
theorem dX0_leaseTo_0 : decode cX0_leaseTo 0 = .ok (.aload_n 0, 1) := by decide +kernel
theorem dX0_leaseTo_1 : decode cX0_leaseTo 1 = .ok (.invokevirtual 28, 3) := by decide +kernel
theorem dX0_leaseTo_4 : decode cX0_leaseTo 4 = .ok (.aload_n 0, 1) := by decide +kernel
theorem dX0_leaseTo_5 : decode cX0_leaseTo 5 = .ok (.iconst 2, 1) := by decide +kernel
theorem dX0_leaseTo_6 : decode cX0_leaseTo 6 = .ok (.putfield 9, 3) := by decide +kernel
theorem dX0_leaseTo_9 : decode cX0_leaseTo 9 = .ok (.aload_n 0, 1) := by decide +kernel
theorem dX0_leaseTo_10 : decode cX0_leaseTo 10 = .ok (.iload_n 1, 1) := by decide +kernel
theorem dX0_leaseTo_11 : decode cX0_leaseTo 11 = .ok (.putfield 15, 3) := by decide +kernel
theorem dX0_leaseTo_14 : decode cX0_leaseTo 14 = .ok (.aload_n 0, 1) := by decide +kernel
theorem dX0_leaseTo_15 : decode cX0_leaseTo 15 = .ok (.iload_n 2, 1) := by decide +kernel
theorem dX0_leaseTo_16 : decode cX0_leaseTo 16 = .ok (.bipush 100, 2) := by decide +kernel
theorem dX0_leaseTo_18 : decode cX0_leaseTo 18 = .ok (.iadd, 1) := by decide +kernel
theorem dX0_leaseTo_19 : decode cX0_leaseTo 19 = .ok (.putfield 31, 3) := by decide +kernel
theorem dX0_leaseTo_22 : decode cX0_leaseTo 22 = .ok (.aload_n 0, 1) := by decide +kernel
theorem dX0_leaseTo_23 : decode cX0_leaseTo 23 = .ok (.iconst 0, 1) := by decide +kernel
theorem dX0_leaseTo_24 : decode cX0_leaseTo 24 = .ok (.putfield 34, 3) := by decide +kernel
theorem dX0_leaseTo_27 : decode cX0_leaseTo 27 = .ok (.aload_n 0, 1) := by decide +kernel
theorem dX0_leaseTo_28 : decode cX0_leaseTo 28 = .ok (.bipush 10, 2) := by decide +kernel
theorem dX0_leaseTo_30 : decode cX0_leaseTo 30 = .ok (.putfield 37, 3) := by decide +kernel
theorem dX0_leaseTo_33 : decode cX0_leaseTo 33 = .ok (.return_, 1) := by decide +kernel
set_option maxRecDepth 20000 in
theorem ggX0_release_X0_dropBids : GoodIn wsX0_release wsX0_dropBids := goodIn_r _ [7, 8, 9, 10, 11, 12, 13, 14, 15, 16, 17, 18, 19, 20, 21, 22, 23] (by decide +kernel) (by decide +kernel)
set_option maxRecDepth 20000 in
theorem gX0_release_X0_dropBids : GoodIn wsX0_release (wsV RX0 28 RX0 yX0_dropBids wsX0_dropBids) := goodIn_app (goodIn_of _ (by decide +kernel)) ggX0_release_X0_dropBids
theorem dX0_release_0 : decode cX0_release 0 = .ok (.aload_n 0, 1) := by decide +kernel
theorem dX0_release_1 : decode cX0_release 1 = .ok (.invokevirtual 28, 3) := by decide +kernel
theorem dX0_release_4 : decode cX0_release 4 = .ok (.aload_n 0, 1) := by decide +kernel
theorem dX0_release_5 : decode cX0_release 5 = .ok (.iconst 0, 1) := by decide +kernel
theorem dX0_release_6 : decode cX0_release 6 = .ok (.putfield 9, 3) := by decide +kernel
theorem dX0_release_9 : decode cX0_release 9 = .ok (.aload_n 0, 1) := by decide +kernel
theorem dX0_release_10 : decode cX0_release 10 = .ok (.iconst (-1), 1) := by decide +kernel
theorem dX0_release_11 : decode cX0_release 11 = .ok (.putfield 15, 3) := by decide +kernel
theorem dX0_release_14 : decode cX0_release 14 = .ok (.return_, 1) := by decide +kernel
set_option maxRecDepth 20000 in
theorem ggX0_goOn_X0_release : GoodIn wsX0_goOn wsX0_release := goodIn_r _ [6, 1, 7, 8, 9, 10, 5, 11, 12, 13, 14, 15, 16, 17, 18, 19, 20, 21, 22, 23, 24, 25, 26, 27] (by decide +kernel) (by decide +kernel)
set_option maxRecDepth 20000 in
theorem gX0_goOn_X0_release : GoodIn wsX0_goOn (wsV RX0 40 RX0 yX0_release wsX0_release) := goodIn_app (goodIn_of _ (by decide +kernel)) ggX0_goOn_X0_release
theorem dX0_goOn_0 : decode cX0_goOn 0 = .ok (.aload_n 0, 1) := by decide +kernel
theorem dX0_goOn_1 : decode cX0_goOn 1 = .ok (.getfield 9, 3) := by decide +kernel
theorem dX0_goOn_4 : decode cX0_goOn 4 = .ok (.iconst 2, 1) := by decide +kernel
theorem dX0_goOn_5 : decode cX0_goOn 5 = .ok (.if_icmp .ne 11, 3) := by decide +kernel
theorem dX0_goOn_8 : decode cX0_goOn 8 = .ok (.aload_n 0, 1) := by decide +kernel
theorem dX0_goOn_9 : decode cX0_goOn 9 = .ok (.iconst 3, 1) := by decide +kernel
theorem dX0_goOn_10 : decode cX0_goOn 10 = .ok (.putfield 9, 3) := by decide +kernel
theorem dX0_goOn_13 : decode cX0_goOn 13 = .ok (.goto 23, 3) := by decide +kernel
theorem dX0_goOn_16 : decode cX0_goOn 16 = .ok (.aload_n 0, 1) := by decide +kernel
theorem dX0_goOn_17 : decode cX0_goOn 17 = .ok (.getfield 9, 3) := by decide +kernel
theorem dX0_goOn_20 : decode cX0_goOn 20 = .ok (.iconst 3, 1) := by decide +kernel
theorem dX0_goOn_21 : decode cX0_goOn 21 = .ok (.if_icmp .ne 11, 3) := by decide +kernel
theorem dX0_goOn_24 : decode cX0_goOn 24 = .ok (.aload_n 0, 1) := by decide +kernel
theorem dX0_goOn_25 : decode cX0_goOn 25 = .ok (.iconst 4, 1) := by decide +kernel
theorem dX0_goOn_26 : decode cX0_goOn 26 = .ok (.putfield 9, 3) := by decide +kernel
theorem dX0_goOn_29 : decode cX0_goOn 29 = .ok (.goto 7, 3) := by decide +kernel
theorem dX0_goOn_32 : decode cX0_goOn 32 = .ok (.aload_n 0, 1) := by decide +kernel
theorem dX0_goOn_33 : decode cX0_goOn 33 = .ok (.invokevirtual 40, 3) := by decide +kernel
theorem dX0_goOn_36 : decode cX0_goOn 36 = .ok (.return_, 1) := by decide +kernel
theorem dX0_dayOfChange_0 : decode cX0_dayOfChange 0 = .ok (.aload_n 0, 1) := by decide +kernel
theorem dX0_dayOfChange_1 : decode cX0_dayOfChange 1 = .ok (.getfield 9, 3) := by decide +kernel
theorem dX0_dayOfChange_4 : decode cX0_dayOfChange 4 = .ok (.tableswitch 61 1 4 #[32, 37, 42, 50], 32) := by decide +kernel
theorem dX0_dayOfChange_36 : decode cX0_dayOfChange 36 = .ok (.aload_n 0, 1) := by decide +kernel
theorem dX0_dayOfChange_37 : decode cX0_dayOfChange 37 = .ok (.getfield 25, 3) := by decide +kernel
theorem dX0_dayOfChange_40 : decode cX0_dayOfChange 40 = .ok (.ireturn, 1) := by decide +kernel
theorem dX0_dayOfChange_41 : decode cX0_dayOfChange 41 = .ok (.aload_n 0, 1) := by decide +kernel
theorem dX0_dayOfChange_42 : decode cX0_dayOfChange 42 = .ok (.getfield 31, 3) := by decide +kernel
theorem dX0_dayOfChange_45 : decode cX0_dayOfChange 45 = .ok (.ireturn, 1) := by decide +kernel
theorem dX0_dayOfChange_46 : decode cX0_dayOfChange 46 = .ok (.aload_n 0, 1) := by decide +kernel
theorem dX0_dayOfChange_47 : decode cX0_dayOfChange 47 = .ok (.getfield 31, 3) := by decide +kernel
theorem dX0_dayOfChange_50 : decode cX0_dayOfChange 50 = .ok (.bipush 10, 2) := by decide +kernel
theorem dX0_dayOfChange_52 : decode cX0_dayOfChange 52 = .ok (.iadd, 1) := by decide +kernel
theorem dX0_dayOfChange_53 : decode cX0_dayOfChange 53 = .ok (.ireturn, 1) := by decide +kernel
theorem dX0_dayOfChange_54 : decode cX0_dayOfChange 54 = .ok (.aload_n 0, 1) := by decide +kernel
theorem dX0_dayOfChange_55 : decode cX0_dayOfChange 55 = .ok (.getfield 31, 3) := by decide +kernel
theorem dX0_dayOfChange_58 : decode cX0_dayOfChange 58 = .ok (.bipush 10, 2) := by decide +kernel
theorem dX0_dayOfChange_60 : decode cX0_dayOfChange 60 = .ok (.iadd, 1) := by decide +kernel
theorem dX0_dayOfChange_61 : decode cX0_dayOfChange 61 = .ok (.bipush 10, 2) := by decide +kernel
theorem dX0_dayOfChange_63 : decode cX0_dayOfChange 63 = .ok (.iadd, 1) := by decide +kernel
theorem dX0_dayOfChange_64 : decode cX0_dayOfChange 64 = .ok (.ireturn, 1) := by decide +kernel
theorem dX0_dayOfChange_65 : decode cX0_dayOfChange 65 = .ok (.iconst (-1), 1) := by decide +kernel
theorem dX0_dayOfChange_66 : decode cX0_dayOfChange 66 = .ok (.ireturn, 1) := by decide +kernel
set_option maxRecDepth 20000 in
theorem ggX0_freeze_X0_dropBids : GoodIn wsX0_freeze wsX0_dropBids := goodIn_r _ [9, 10, 11, 12, 13, 14, 15, 16, 17, 18, 19, 20, 21, 22, 23, 24, 25] (by decide +kernel) (by decide +kernel)
set_option maxRecDepth 20000 in
theorem gX0_freeze_X0_dropBids : GoodIn wsX0_freeze (wsV RX0 28 RX0 yX0_dropBids wsX0_dropBids) := goodIn_app (goodIn_of _ (by decide +kernel)) ggX0_freeze_X0_dropBids
theorem dX0_freeze_0 : decode cX0_freeze 0 = .ok (.aload_n 0, 1) := by decide +kernel
theorem dX0_freeze_1 : decode cX0_freeze 1 = .ok (.invokevirtual 28, 3) := by decide +kernel
theorem dX0_freeze_4 : decode cX0_freeze 4 = .ok (.aload_n 0, 1) := by decide +kernel
theorem dX0_freeze_5 : decode cX0_freeze 5 = .ok (.aload_n 0, 1) := by decide +kernel
theorem dX0_freeze_6 : decode cX0_freeze 6 = .ok (.getfield 9, 3) := by decide +kernel
theorem dX0_freeze_9 : decode cX0_freeze 9 = .ok (.putfield 43, 3) := by decide +kernel
theorem dX0_freeze_12 : decode cX0_freeze 12 = .ok (.aload_n 0, 1) := by decide +kernel
theorem dX0_freeze_13 : decode cX0_freeze 13 = .ok (.iconst 5, 1) := by decide +kernel
theorem dX0_freeze_14 : decode cX0_freeze 14 = .ok (.putfield 9, 3) := by decide +kernel
theorem dX0_freeze_17 : decode cX0_freeze 17 = .ok (.aload_n 0, 1) := by decide +kernel
theorem dX0_freeze_18 : decode cX0_freeze 18 = .ok (.iload_n 1, 1) := by decide +kernel
theorem dX0_freeze_19 : decode cX0_freeze 19 = .ok (.putfield 46, 3) := by decide +kernel
theorem dX0_freeze_22 : decode cX0_freeze 22 = .ok (.aload_n 0, 1) := by decide +kernel
theorem dX0_freeze_23 : decode cX0_freeze 23 = .ok (.iload_n 2, 1) := by decide +kernel
theorem dX0_freeze_24 : decode cX0_freeze 24 = .ok (.putfield 49, 3) := by decide +kernel
theorem dX0_freeze_27 : decode cX0_freeze 27 = .ok (.return_, 1) := by decide +kernel
set_option maxRecDepth 20000 in
theorem ggX0_thaw_X0_leaseTo : GoodIn wsX0_thaw wsX0_leaseTo := goodIn_r _ [11, 2, 6, 3, 12, 13, 14, 15, 16, 10, 17, 18, 19, 20, 21, 22, 27, 28, 29, 30, 31, 32, 33, 34, 35, 36, 37] (by decide +kernel) (by decide +kernel)
set_option maxRecDepth 20000 in
theorem gX0_thaw_X0_leaseTo : GoodIn wsX0_thaw (wsV RX0 52 RX0 yX0_leaseTo wsX0_leaseTo) := goodIn_app (goodIn_of _ (by decide +kernel)) ggX0_thaw_X0_leaseTo
set_option maxRecDepth 20000 in
theorem ggX0_thaw_X0_release : GoodIn wsX0_thaw wsX0_release := goodIn_r _ [26, 2, 6, 14, 15, 16, 10, 17, 18, 19, 20, 21, 22, 27, 28, 29, 30, 31, 32, 33, 34, 35, 36, 37] (by decide +kernel) (by decide +kernel)
set_option maxRecDepth 20000 in
theorem gX0_thaw_X0_release : GoodIn wsX0_thaw (wsV RX0 40 RX0 yX0_release wsX0_release) := goodIn_app (goodIn_of _ (by decide +kernel)) ggX0_thaw_X0_release
theorem dX0_thaw_0 : decode cX0_thaw 0 = .ok (.aload_n 0, 1) := by decide +kernel
theorem dX0_thaw_1 : decode cX0_thaw 1 = .ok (.getfield 43, 3) := by decide +kernel
theorem dX0_thaw_4 : decode cX0_thaw 4 = .ok (.iconst 1, 1) := by decide +kernel
theorem dX0_thaw_5 : decode cX0_thaw 5 = .ok (.if_icmp .eq 48, 3) := by decide +kernel
theorem dX0_thaw_8 : decode cX0_thaw 8 = .ok (.aload_n 0, 1) := by decide +kernel
theorem dX0_thaw_9 : decode cX0_thaw 9 = .ok (.aload_n 0, 1) := by decide +kernel
theorem dX0_thaw_10 : decode cX0_thaw 10 = .ok (.getfield 43, 3) := by decide +kernel
theorem dX0_thaw_13 : decode cX0_thaw 13 = .ok (.putfield 9, 3) := by decide +kernel
theorem dX0_thaw_16 : decode cX0_thaw 16 = .ok (.aload_n 0, 1) := by decide +kernel
theorem dX0_thaw_17 : decode cX0_thaw 17 = .ok (.dup, 1) := by decide +kernel
theorem dX0_thaw_18 : decode cX0_thaw 18 = .ok (.getfield 31, 3) := by decide +kernel
theorem dX0_thaw_21 : decode cX0_thaw 21 = .ok (.iload_n 2, 1) := by decide +kernel
theorem dX0_thaw_22 : decode cX0_thaw 22 = .ok (.aload_n 0, 1) := by decide +kernel
theorem dX0_thaw_23 : decode cX0_thaw 23 = .ok (.getfield 49, 3) := by decide +kernel
theorem dX0_thaw_26 : decode cX0_thaw 26 = .ok (.isub, 1) := by decide +kernel
theorem dX0_thaw_27 : decode cX0_thaw 27 = .ok (.iadd, 1) := by decide +kernel
theorem dX0_thaw_28 : decode cX0_thaw 28 = .ok (.putfield 31, 3) := by decide +kernel
theorem dX0_thaw_31 : decode cX0_thaw 31 = .ok (.aload_n 0, 1) := by decide +kernel
theorem dX0_thaw_32 : decode cX0_thaw 32 = .ok (.iload_n 1, 1) := by decide +kernel
theorem dX0_thaw_33 : decode cX0_thaw 33 = .ok (.ifCond .eq 10, 3) := by decide +kernel
theorem dX0_thaw_36 : decode cX0_thaw 36 = .ok (.aload_n 0, 1) := by decide +kernel
theorem dX0_thaw_37 : decode cX0_thaw 37 = .ok (.getfield 46, 3) := by decide +kernel
theorem dX0_thaw_40 : decode cX0_thaw 40 = .ok (.goto 7, 3) := by decide +kernel
theorem dX0_thaw_43 : decode cX0_thaw 43 = .ok (.aload_n 0, 1) := by decide +kernel
theorem dX0_thaw_44 : decode cX0_thaw 44 = .ok (.getfield 15, 3) := by decide +kernel
theorem dX0_thaw_47 : decode cX0_thaw 47 = .ok (.putfield 15, 3) := by decide +kernel
theorem dX0_thaw_50 : decode cX0_thaw 50 = .ok (.goto 23, 3) := by decide +kernel
theorem dX0_thaw_53 : decode cX0_thaw 53 = .ok (.iload_n 1, 1) := by decide +kernel
theorem dX0_thaw_54 : decode cX0_thaw 54 = .ok (.ifCond .eq 15, 3) := by decide +kernel
theorem dX0_thaw_57 : decode cX0_thaw 57 = .ok (.aload_n 0, 1) := by decide +kernel
theorem dX0_thaw_58 : decode cX0_thaw 58 = .ok (.aload_n 0, 1) := by decide +kernel
theorem dX0_thaw_59 : decode cX0_thaw 59 = .ok (.getfield 46, 3) := by decide +kernel
theorem dX0_thaw_62 : decode cX0_thaw 62 = .ok (.iload_n 2, 1) := by decide +kernel
theorem dX0_thaw_63 : decode cX0_thaw 63 = .ok (.invokevirtual 52, 3) := by decide +kernel
theorem dX0_thaw_66 : decode cX0_thaw 66 = .ok (.goto 7, 3) := by decide +kernel
theorem dX0_thaw_69 : decode cX0_thaw 69 = .ok (.aload_n 0, 1) := by decide +kernel
theorem dX0_thaw_70 : decode cX0_thaw 70 = .ok (.invokevirtual 40, 3) := by decide +kernel
theorem dX0_thaw_73 : decode cX0_thaw 73 = .ok (.return_, 1) := by decide +kernel
theorem dX0_countBids_0 : decode cX0_countBids 0 = .ok (.iconst 0, 1) := by decide +kernel
theorem dX0_countBids_1 : decode cX0_countBids 1 = .ok (.istore_n 1, 1) := by decide +kernel
theorem dX0_countBids_2 : decode cX0_countBids 2 = .ok (.iconst 0, 1) := by decide +kernel
theorem dX0_countBids_3 : decode cX0_countBids 3 = .ok (.istore_n 2, 1) := by decide +kernel
theorem dX0_countBids_4 : decode cX0_countBids 4 = .ok (.iload_n 2, 1) := by decide +kernel
theorem dX0_countBids_5 : decode cX0_countBids 5 = .ok (.bipush 6, 2) := by decide +kernel
theorem dX0_countBids_7 : decode cX0_countBids 7 = .ok (.if_icmp .ge 26, 3) := by decide +kernel
theorem dX0_countBids_10 : decode cX0_countBids 10 = .ok (.iload_n 1, 1) := by decide +kernel
theorem dX0_countBids_11 : decode cX0_countBids 11 = .ok (.aload_n 0, 1) := by decide +kernel
theorem dX0_countBids_12 : decode cX0_countBids 12 = .ok (.getfield 18, 3) := by decide +kernel
theorem dX0_countBids_15 : decode cX0_countBids 15 = .ok (.iload_n 2, 1) := by decide +kernel
theorem dX0_countBids_16 : decode cX0_countBids 16 = .ok (.iaload, 1) := by decide +kernel
theorem dX0_countBids_17 : decode cX0_countBids 17 = .ok (.ifCond .le 7, 3) := by decide +kernel
theorem dX0_countBids_20 : decode cX0_countBids 20 = .ok (.iconst 1, 1) := by decide +kernel
theorem dX0_countBids_21 : decode cX0_countBids 21 = .ok (.goto 4, 3) := by decide +kernel
theorem dX0_countBids_24 : decode cX0_countBids 24 = .ok (.iconst 0, 1) := by decide +kernel
theorem dX0_countBids_25 : decode cX0_countBids 25 = .ok (.iadd, 1) := by decide +kernel
theorem dX0_countBids_26 : decode cX0_countBids 26 = .ok (.istore_n 1, 1) := by decide +kernel
theorem dX0_countBids_27 : decode cX0_countBids 27 = .ok (.iinc 2 1, 3) := by decide +kernel
theorem dX0_countBids_30 : decode cX0_countBids 30 = .ok (.goto (-26), 3) := by decide +kernel
theorem dX0_countBids_33 : decode cX0_countBids 33 = .ok (.iload_n 1, 1) := by decide +kernel
theorem dX0_countBids_34 : decode cX0_countBids 34 = .ok (.ireturn, 1) := by decide +kernel
set_option maxRecDepth 20000 in
theorem ggX0_dropBids_J7_fill_53178 : GoodIn wsX0_dropBids wsJ7_fill_53178 := goodIn_r _ [5] (by decide +kernel) (by decide +kernel)
set_option maxRecDepth 20000 in
theorem gX0_dropBids_J7_fill_53178 : GoodIn wsX0_dropBids (va_wsS RX0 56 yJ7_fill_53178 wsJ7_fill_53178) := goodIn_app (goodIn_of _ (by decide +kernel)) ggX0_dropBids_J7_fill_53178
theorem dX0_dropBids_0 : decode cX0_dropBids 0 = .ok (.aload_n 0, 1) := by decide +kernel
theorem dX0_dropBids_1 : decode cX0_dropBids 1 = .ok (.getfield 18, 3) := by decide +kernel
theorem dX0_dropBids_4 : decode cX0_dropBids 4 = .ok (.iconst 0, 1) := by decide +kernel
theorem dX0_dropBids_5 : decode cX0_dropBids 5 = .ok (.invokestatic 56, 3) := by decide +kernel
theorem dX0_dropBids_8 : decode cX0_dropBids 8 = .ok (.return_, 1) := by decide +kernel
theorem dX0_isAhead_0 : decode cX0_isAhead 0 = .ok (.aload_n 0, 1) := by decide +kernel
theorem dX0_isAhead_1 : decode cX0_isAhead 1 = .ok (.getfield 18, 3) := by decide +kernel
theorem dX0_isAhead_4 : decode cX0_isAhead 4 = .ok (.iload_n 1, 1) := by decide +kernel
theorem dX0_isAhead_5 : decode cX0_isAhead 5 = .ok (.iaload, 1) := by decide +kernel
theorem dX0_isAhead_6 : decode cX0_isAhead 6 = .ok (.aload_n 0, 1) := by decide +kernel
theorem dX0_isAhead_7 : decode cX0_isAhead 7 = .ok (.getfield 18, 3) := by decide +kernel
theorem dX0_isAhead_10 : decode cX0_isAhead 10 = .ok (.iload_n 2, 1) := by decide +kernel
theorem dX0_isAhead_11 : decode cX0_isAhead 11 = .ok (.iaload, 1) := by decide +kernel
theorem dX0_isAhead_12 : decode cX0_isAhead 12 = .ok (.if_icmp .eq 24, 3) := by decide +kernel
theorem dX0_isAhead_15 : decode cX0_isAhead 15 = .ok (.aload_n 0, 1) := by decide +kernel
theorem dX0_isAhead_16 : decode cX0_isAhead 16 = .ok (.getfield 18, 3) := by decide +kernel
theorem dX0_isAhead_19 : decode cX0_isAhead 19 = .ok (.iload_n 1, 1) := by decide +kernel
theorem dX0_isAhead_20 : decode cX0_isAhead 20 = .ok (.iaload, 1) := by decide +kernel
theorem dX0_isAhead_21 : decode cX0_isAhead 21 = .ok (.aload_n 0, 1) := by decide +kernel
theorem dX0_isAhead_22 : decode cX0_isAhead 22 = .ok (.getfield 18, 3) := by decide +kernel
theorem dX0_isAhead_25 : decode cX0_isAhead 25 = .ok (.iload_n 2, 1) := by decide +kernel
theorem dX0_isAhead_26 : decode cX0_isAhead 26 = .ok (.iaload, 1) := by decide +kernel
theorem dX0_isAhead_27 : decode cX0_isAhead 27 = .ok (.if_icmp .le 7, 3) := by decide +kernel
theorem dX0_isAhead_30 : decode cX0_isAhead 30 = .ok (.iconst 1, 1) := by decide +kernel
theorem dX0_isAhead_31 : decode cX0_isAhead 31 = .ok (.goto 4, 3) := by decide +kernel
theorem dX0_isAhead_34 : decode cX0_isAhead 34 = .ok (.iconst 0, 1) := by decide +kernel
theorem dX0_isAhead_35 : decode cX0_isAhead 35 = .ok (.ireturn, 1) := by decide +kernel
theorem dX0_isAhead_36 : decode cX0_isAhead 36 = .ok (.aload_n 0, 1) := by decide +kernel
theorem dX0_isAhead_37 : decode cX0_isAhead 37 = .ok (.getfield 22, 3) := by decide +kernel
theorem dX0_isAhead_40 : decode cX0_isAhead 40 = .ok (.iload_n 1, 1) := by decide +kernel
theorem dX0_isAhead_41 : decode cX0_isAhead 41 = .ok (.iaload, 1) := by decide +kernel
theorem dX0_isAhead_42 : decode cX0_isAhead 42 = .ok (.aload_n 0, 1) := by decide +kernel
theorem dX0_isAhead_43 : decode cX0_isAhead 43 = .ok (.getfield 22, 3) := by decide +kernel
theorem dX0_isAhead_46 : decode cX0_isAhead 46 = .ok (.iload_n 2, 1) := by decide +kernel
theorem dX0_isAhead_47 : decode cX0_isAhead 47 = .ok (.iaload, 1) := by decide +kernel
theorem dX0_isAhead_48 : decode cX0_isAhead 48 = .ok (.if_icmp .ge 7, 3) := by decide +kernel
theorem dX0_isAhead_51 : decode cX0_isAhead 51 = .ok (.iconst 1, 1) := by decide +kernel
theorem dX0_isAhead_52 : decode cX0_isAhead 52 = .ok (.goto 4, 3) := by decide +kernel
theorem dX0_isAhead_55 : decode cX0_isAhead 55 = .ok (.iconst 0, 1) := by decide +kernel
theorem dX0_isAhead_56 : decode cX0_isAhead 56 = .ok (.ireturn, 1) := by decide +kernel
set_option maxRecDepth 20000 in
theorem ggX0_hasRecord_X2_isHeld : GoodIn wsX0_hasRecord wsX2_isHeld := goodIn_r _ [5] (by decide +kernel) (by decide +kernel)
set_option maxRecDepth 20000 in
theorem gX0_hasRecord_X2_isHeld_n62 : GoodIn wsX0_hasRecord (wsX2_isHeld) := ggX0_hasRecord_X2_isHeld
theorem dX0_hasRecord_0 : decode cX0_hasRecord 0 = .ok (.aload_n 0, 1) := by decide +kernel
theorem dX0_hasRecord_1 : decode cX0_hasRecord 1 = .ok (.getfield 9, 3) := by decide +kernel
theorem dX0_hasRecord_4 : decode cX0_hasRecord 4 = .ok (.iconst 5, 1) := by decide +kernel
theorem dX0_hasRecord_5 : decode cX0_hasRecord 5 = .ok (.if_icmp .ne 10, 3) := by decide +kernel
theorem dX0_hasRecord_8 : decode cX0_hasRecord 8 = .ok (.aload_n 0, 1) := by decide +kernel
theorem dX0_hasRecord_9 : decode cX0_hasRecord 9 = .ok (.getfield 43, 3) := by decide +kernel
theorem dX0_hasRecord_12 : decode cX0_hasRecord 12 = .ok (.goto 7, 3) := by decide +kernel
theorem dX0_hasRecord_15 : decode cX0_hasRecord 15 = .ok (.aload_n 0, 1) := by decide +kernel
theorem dX0_hasRecord_16 : decode cX0_hasRecord 16 = .ok (.getfield 9, 3) := by decide +kernel
theorem dX0_hasRecord_19 : decode cX0_hasRecord 19 = .ok (.invokestatic 62, 3) := by decide +kernel
theorem dX0_hasRecord_22 : decode cX0_hasRecord 22 = .ok (.ireturn, 1) := by decide +kernel
set_option maxRecDepth 20000 in
theorem ggX0_answer_X0_hasRecord : GoodIn wsX0_answer wsX0_hasRecord := goodIn_r _ [6, 7, 8, 9, 10, 11, 12, 13, 14, 15, 16, 17, 18, 19, 20, 21, 22] (by decide +kernel) (by decide +kernel)
set_option maxRecDepth 20000 in
theorem gX0_answer_X0_hasRecord : GoodIn wsX0_answer (wsV RX0 66 RX0 yX0_hasRecord wsX0_hasRecord) := goodIn_app (goodIn_of _ (by decide +kernel)) ggX0_answer_X0_hasRecord
theorem dX0_answer_0 : decode cX0_answer 0 = .ok (.aload_n 0, 1) := by decide +kernel
theorem dX0_answer_1 : decode cX0_answer 1 = .ok (.invokevirtual 66, 3) := by decide +kernel
theorem dX0_answer_4 : decode cX0_answer 4 = .ok (.ifCond .eq 10, 3) := by decide +kernel
theorem dX0_answer_7 : decode cX0_answer 7 = .ok (.aload_n 0, 1) := by decide +kernel
theorem dX0_answer_8 : decode cX0_answer 8 = .ok (.getfield 34, 3) := by decide +kernel
theorem dX0_answer_11 : decode cX0_answer 11 = .ok (.goto 4, 3) := by decide +kernel
theorem dX0_answer_14 : decode cX0_answer 14 = .ok (.iconst (-1), 1) := by decide +kernel
theorem dX0_answer_15 : decode cX0_answer 15 = .ok (.ireturn, 1) := by decide +kernel
set_option maxRecDepth 20000 in
theorem ggX0_answerLifetime_X0_hasRecord : GoodIn wsX0_answerLifetime wsX0_hasRecord := goodIn_r _ [6, 7, 8, 9, 10, 11, 12, 13, 14, 15, 16, 17, 18, 19, 20, 21, 22] (by decide +kernel) (by decide +kernel)
set_option maxRecDepth 20000 in
theorem gX0_answerLifetime_X0_hasRecord : GoodIn wsX0_answerLifetime (wsV RX0 66 RX0 yX0_hasRecord wsX0_hasRecord) := goodIn_app (goodIn_of _ (by decide +kernel)) ggX0_answerLifetime_X0_hasRecord
theorem dX0_answerLifetime_0 : decode cX0_answerLifetime 0 = .ok (.aload_n 0, 1) := by decide +kernel
theorem dX0_answerLifetime_1 : decode cX0_answerLifetime 1 = .ok (.invokevirtual 66, 3) := by decide +kernel
theorem dX0_answerLifetime_4 : decode cX0_answerLifetime 4 = .ok (.ifCond .eq 10, 3) := by decide +kernel
theorem dX0_answerLifetime_7 : decode cX0_answerLifetime 7 = .ok (.aload_n 0, 1) := by decide +kernel
theorem dX0_answerLifetime_8 : decode cX0_answerLifetime 8 = .ok (.getfield 37, 3) := by decide +kernel
theorem dX0_answerLifetime_11 : decode cX0_answerLifetime 11 = .ok (.goto 4, 3) := by decide +kernel
theorem dX0_answerLifetime_14 : decode cX0_answerLifetime 14 = .ok (.iconst 5, 1) := by decide +kernel
theorem dX0_answerLifetime_15 : decode cX0_answerLifetime 15 = .ok (.ireturn, 1) := by decide +kernel
theorem dX1_init_0 : decode cX1_init 0 = .ok (.aload_n 0, 1) := by decide +kernel
theorem dX1_init_1 : decode cX1_init 1 = .ok (.invokespecial 3, 3) := by decide +kernel
theorem dX1_init_4 : decode cX1_init 4 = .ok (.aload_n 0, 1) := by decide +kernel
theorem dX1_init_5 : decode cX1_init 5 = .ok (.bipush 16, 2) := by decide +kernel
theorem dX1_init_7 : decode cX1_init 7 = .ok (.newarray .boolean, 2) := by decide +kernel
theorem dX1_init_9 : decode cX1_init 9 = .ok (.putfield 9, 3) := by decide +kernel
theorem dX1_init_12 : decode cX1_init 12 = .ok (.aload_n 0, 1) := by decide +kernel
theorem dX1_init_13 : decode cX1_init 13 = .ok (.bipush 16, 2) := by decide +kernel
theorem dX1_init_15 : decode cX1_init 15 = .ok (.newarray .int, 2) := by decide +kernel
theorem dX1_init_17 : decode cX1_init 17 = .ok (.putfield 15, 3) := by decide +kernel
theorem dX1_init_20 : decode cX1_init 20 = .ok (.aload_n 0, 1) := by decide +kernel
theorem dX1_init_21 : decode cX1_init 21 = .ok (.bipush 16, 2) := by decide +kernel
theorem dX1_init_23 : decode cX1_init 23 = .ok (.newarray .int, 2) := by decide +kernel
theorem dX1_init_25 : decode cX1_init 25 = .ok (.putfield 19, 3) := by decide +kernel
theorem dX1_init_28 : decode cX1_init 28 = .ok (.aload_n 0, 1) := by decide +kernel
theorem dX1_init_29 : decode cX1_init 29 = .ok (.bipush 16, 2) := by decide +kernel
theorem dX1_init_31 : decode cX1_init 31 = .ok (.newarray .int, 2) := by decide +kernel
theorem dX1_init_33 : decode cX1_init 33 = .ok (.putfield 22, 3) := by decide +kernel
theorem dX1_init_36 : decode cX1_init 36 = .ok (.return_, 1) := by decide +kernel
theorem dX1_isFresh_0 : decode cX1_isFresh 0 = .ok (.aload_n 0, 1) := by decide +kernel
theorem dX1_isFresh_1 : decode cX1_isFresh 1 = .ok (.getfield 9, 3) := by decide +kernel
theorem dX1_isFresh_4 : decode cX1_isFresh 4 = .ok (.iload_n 1, 1) := by decide +kernel
theorem dX1_isFresh_5 : decode cX1_isFresh 5 = .ok (.baload, 1) := by decide +kernel
theorem dX1_isFresh_6 : decode cX1_isFresh 6 = .ok (.ifCond .eq 24, 3) := by decide +kernel
theorem dX1_isFresh_9 : decode cX1_isFresh 9 = .ok (.iload_n 2, 1) := by decide +kernel
theorem dX1_isFresh_10 : decode cX1_isFresh 10 = .ok (.aload_n 0, 1) := by decide +kernel
theorem dX1_isFresh_11 : decode cX1_isFresh 11 = .ok (.getfield 22, 3) := by decide +kernel
theorem dX1_isFresh_14 : decode cX1_isFresh 14 = .ok (.iload_n 1, 1) := by decide +kernel
theorem dX1_isFresh_15 : decode cX1_isFresh 15 = .ok (.iaload, 1) := by decide +kernel
theorem dX1_isFresh_16 : decode cX1_isFresh 16 = .ok (.isub, 1) := by decide +kernel
theorem dX1_isFresh_17 : decode cX1_isFresh 17 = .ok (.aload_n 0, 1) := by decide +kernel
theorem dX1_isFresh_18 : decode cX1_isFresh 18 = .ok (.getfield 19, 3) := by decide +kernel
theorem dX1_isFresh_21 : decode cX1_isFresh 21 = .ok (.iload_n 1, 1) := by decide +kernel
theorem dX1_isFresh_22 : decode cX1_isFresh 22 = .ok (.iaload, 1) := by decide +kernel
theorem dX1_isFresh_23 : decode cX1_isFresh 23 = .ok (.if_icmp .ge 7, 3) := by decide +kernel
theorem dX1_isFresh_26 : decode cX1_isFresh 26 = .ok (.iconst 1, 1) := by decide +kernel
theorem dX1_isFresh_27 : decode cX1_isFresh 27 = .ok (.goto 4, 3) := by decide +kernel
theorem dX1_isFresh_30 : decode cX1_isFresh 30 = .ok (.iconst 0, 1) := by decide +kernel
theorem dX1_isFresh_31 : decode cX1_isFresh 31 = .ok (.ireturn, 1) := by decide +kernel
theorem dX1_keep_0 : decode cX1_keep 0 = .ok (.aload_n 0, 1) := by decide +kernel
theorem dX1_keep_1 : decode cX1_keep 1 = .ok (.getfield 9, 3) := by decide +kernel
theorem dX1_keep_4 : decode cX1_keep 4 = .ok (.iload_n 1, 1) := by decide +kernel
theorem dX1_keep_5 : decode cX1_keep 5 = .ok (.iconst 1, 1) := by decide +kernel
theorem dX1_keep_6 : decode cX1_keep 6 = .ok (.bastore, 1) := by decide +kernel
theorem dX1_keep_7 : decode cX1_keep 7 = .ok (.aload_n 0, 1) := by decide +kernel
theorem dX1_keep_8 : decode cX1_keep 8 = .ok (.getfield 15, 3) := by decide +kernel
theorem dX1_keep_11 : decode cX1_keep 11 = .ok (.iload_n 1, 1) := by decide +kernel
theorem dX1_keep_12 : decode cX1_keep 12 = .ok (.iload_n 2, 1) := by decide +kernel
theorem dX1_keep_13 : decode cX1_keep 13 = .ok (.iastore, 1) := by decide +kernel
theorem dX1_keep_14 : decode cX1_keep 14 = .ok (.aload_n 0, 1) := by decide +kernel
theorem dX1_keep_15 : decode cX1_keep 15 = .ok (.getfield 19, 3) := by decide +kernel
theorem dX1_keep_18 : decode cX1_keep 18 = .ok (.iload_n 1, 1) := by decide +kernel
theorem dX1_keep_19 : decode cX1_keep 19 = .ok (.iload_n 3, 1) := by decide +kernel
theorem dX1_keep_20 : decode cX1_keep 20 = .ok (.iastore, 1) := by decide +kernel
theorem dX1_keep_21 : decode cX1_keep 21 = .ok (.aload_n 0, 1) := by decide +kernel
theorem dX1_keep_22 : decode cX1_keep 22 = .ok (.getfield 22, 3) := by decide +kernel
theorem dX1_keep_25 : decode cX1_keep 25 = .ok (.iload_n 1, 1) := by decide +kernel
theorem dX1_keep_26 : decode cX1_keep 26 = .ok (.iload 4, 2) := by decide +kernel
theorem dX1_keep_28 : decode cX1_keep 28 = .ok (.iastore, 1) := by decide +kernel
theorem dX1_keep_29 : decode cX1_keep 29 = .ok (.return_, 1) := by decide +kernel
theorem dX1_forgetAll_0 : decode cX1_forgetAll 0 = .ok (.iconst 0, 1) := by decide +kernel
theorem dX1_forgetAll_1 : decode cX1_forgetAll 1 = .ok (.istore_n 1, 1) := by decide +kernel
theorem dX1_forgetAll_2 : decode cX1_forgetAll 2 = .ok (.iconst 0, 1) := by decide +kernel
theorem dX1_forgetAll_3 : decode cX1_forgetAll 3 = .ok (.istore_n 2, 1) := by decide +kernel
theorem dX1_forgetAll_4 : decode cX1_forgetAll 4 = .ok (.iload_n 2, 1) := by decide +kernel
theorem dX1_forgetAll_5 : decode cX1_forgetAll 5 = .ok (.bipush 16, 2) := by decide +kernel
theorem dX1_forgetAll_7 : decode cX1_forgetAll 7 = .ok (.if_icmp .ge 33, 3) := by decide +kernel
theorem dX1_forgetAll_10 : decode cX1_forgetAll 10 = .ok (.iload_n 1, 1) := by decide +kernel
theorem dX1_forgetAll_11 : decode cX1_forgetAll 11 = .ok (.aload_n 0, 1) := by decide +kernel
theorem dX1_forgetAll_12 : decode cX1_forgetAll 12 = .ok (.getfield 9, 3) := by decide +kernel
theorem dX1_forgetAll_15 : decode cX1_forgetAll 15 = .ok (.iload_n 2, 1) := by decide +kernel
theorem dX1_forgetAll_16 : decode cX1_forgetAll 16 = .ok (.baload, 1) := by decide +kernel
theorem dX1_forgetAll_17 : decode cX1_forgetAll 17 = .ok (.ifCond .eq 7, 3) := by decide +kernel
theorem dX1_forgetAll_20 : decode cX1_forgetAll 20 = .ok (.iconst 1, 1) := by decide +kernel
theorem dX1_forgetAll_21 : decode cX1_forgetAll 21 = .ok (.goto 4, 3) := by decide +kernel
theorem dX1_forgetAll_24 : decode cX1_forgetAll 24 = .ok (.iconst 0, 1) := by decide +kernel
theorem dX1_forgetAll_25 : decode cX1_forgetAll 25 = .ok (.iadd, 1) := by decide +kernel
theorem dX1_forgetAll_26 : decode cX1_forgetAll 26 = .ok (.istore_n 1, 1) := by decide +kernel
theorem dX1_forgetAll_27 : decode cX1_forgetAll 27 = .ok (.aload_n 0, 1) := by decide +kernel
theorem dX1_forgetAll_28 : decode cX1_forgetAll 28 = .ok (.getfield 9, 3) := by decide +kernel
theorem dX1_forgetAll_31 : decode cX1_forgetAll 31 = .ok (.iload_n 2, 1) := by decide +kernel
theorem dX1_forgetAll_32 : decode cX1_forgetAll 32 = .ok (.iconst 0, 1) := by decide +kernel
theorem dX1_forgetAll_33 : decode cX1_forgetAll 33 = .ok (.bastore, 1) := by decide +kernel
theorem dX1_forgetAll_34 : decode cX1_forgetAll 34 = .ok (.iinc 2 1, 3) := by decide +kernel
theorem dX1_forgetAll_37 : decode cX1_forgetAll 37 = .ok (.goto (-33), 3) := by decide +kernel
theorem dX1_forgetAll_40 : decode cX1_forgetAll 40 = .ok (.iload_n 1, 1) := by decide +kernel
theorem dX1_forgetAll_41 : decode cX1_forgetAll 41 = .ok (.ireturn, 1) := by decide +kernel
set_option maxRecDepth 20000 in
theorem ggX2_init_X0_init : GoodIn wsX2_init wsX0_init := goodIn_r _ [15, 16, 2, 3, 17, 18, 4, 19, 20, 35, 36, 37, 38, 39, 40, 41, 42, 43, 44, 45] (by decide +kernel) (by decide +kernel)
set_option maxRecDepth 20000 in
theorem gX2_init_X0_init_n25 : GoodIn wsX2_init (wsX0_init) := ggX2_init_X0_init
set_option maxRecDepth 20000 in
theorem ggX2_init_X1_init : GoodIn wsX2_init wsX1_init := goodIn_r _ [22, 23, 2, 3, 24, 25, 4, 26, 27, 28, 46, 47, 48, 49] (by decide +kernel) (by decide +kernel)
set_option maxRecDepth 20000 in
theorem gX2_init_X1_init_n26 : GoodIn wsX2_init (wsX1_init) := ggX2_init_X1_init
theorem dX2_init_0 : decode cX2_init 0 = .ok (.aload_n 0, 1) := by decide +kernel
theorem dX2_init_1 : decode cX2_init 1 = .ok (.invokespecial 1, 3) := by decide +kernel
theorem dX2_init_4 : decode cX2_init 4 = .ok (.aload_n 0, 1) := by decide +kernel
theorem dX2_init_5 : decode cX2_init 5 = .ok (.bipush 6, 2) := by decide +kernel
theorem dX2_init_7 : decode cX2_init 7 = .ok (.newarray .int, 2) := by decide +kernel
theorem dX2_init_9 : decode cX2_init 9 = .ok (.putfield 9, 3) := by decide +kernel
theorem dX2_init_12 : decode cX2_init 12 = .ok (.aload_n 0, 1) := by decide +kernel
theorem dX2_init_13 : decode cX2_init 13 = .ok (.bipush 16, 2) := by decide +kernel
theorem dX2_init_15 : decode cX2_init 15 = .ok (.anewarray 13, 3) := by decide +kernel
theorem dX2_init_18 : decode cX2_init 18 = .ok (.putfield 15, 3) := by decide +kernel
theorem dX2_init_21 : decode cX2_init 21 = .ok (.aload_n 0, 1) := by decide +kernel
theorem dX2_init_22 : decode cX2_init 22 = .ok (.iconst 3, 1) := by decide +kernel
theorem dX2_init_23 : decode cX2_init 23 = .ok (.anewarray 19, 3) := by decide +kernel
theorem dX2_init_26 : decode cX2_init 26 = .ok (.putfield 21, 3) := by decide +kernel
theorem dX2_init_29 : decode cX2_init 29 = .ok (.iconst 0, 1) := by decide +kernel
theorem dX2_init_30 : decode cX2_init 30 = .ok (.istore_n 1, 1) := by decide +kernel
theorem dX2_init_31 : decode cX2_init 31 = .ok (.iload_n 1, 1) := by decide +kernel
theorem dX2_init_32 : decode cX2_init 32 = .ok (.bipush 16, 2) := by decide +kernel
theorem dX2_init_34 : decode cX2_init 34 = .ok (.if_icmp .ge 22, 3) := by decide +kernel
theorem dX2_init_37 : decode cX2_init 37 = .ok (.aload_n 0, 1) := by decide +kernel
theorem dX2_init_38 : decode cX2_init 38 = .ok (.getfield 15, 3) := by decide +kernel
theorem dX2_init_41 : decode cX2_init 41 = .ok (.iload_n 1, 1) := by decide +kernel
theorem dX2_init_42 : decode cX2_init 42 = .ok (.new 13, 3) := by decide +kernel
theorem dX2_init_45 : decode cX2_init 45 = .ok (.dup, 1) := by decide +kernel
theorem dX2_init_46 : decode cX2_init 46 = .ok (.invokespecial 25, 3) := by decide +kernel
theorem dX2_init_49 : decode cX2_init 49 = .ok (.aastore, 1) := by decide +kernel
theorem dX2_init_50 : decode cX2_init 50 = .ok (.iinc 1 1, 3) := by decide +kernel
theorem dX2_init_53 : decode cX2_init 53 = .ok (.goto (-22), 3) := by decide +kernel
theorem dX2_init_56 : decode cX2_init 56 = .ok (.iconst 0, 1) := by decide +kernel
theorem dX2_init_57 : decode cX2_init 57 = .ok (.istore_n 1, 1) := by decide +kernel
theorem dX2_init_58 : decode cX2_init 58 = .ok (.iload_n 1, 1) := by decide +kernel
theorem dX2_init_59 : decode cX2_init 59 = .ok (.iconst 3, 1) := by decide +kernel
theorem dX2_init_60 : decode cX2_init 60 = .ok (.if_icmp .ge 22, 3) := by decide +kernel
theorem dX2_init_63 : decode cX2_init 63 = .ok (.aload_n 0, 1) := by decide +kernel
theorem dX2_init_64 : decode cX2_init 64 = .ok (.getfield 21, 3) := by decide +kernel
theorem dX2_init_67 : decode cX2_init 67 = .ok (.iload_n 1, 1) := by decide +kernel
theorem dX2_init_68 : decode cX2_init 68 = .ok (.new 19, 3) := by decide +kernel
theorem dX2_init_71 : decode cX2_init 71 = .ok (.dup, 1) := by decide +kernel
theorem dX2_init_72 : decode cX2_init 72 = .ok (.invokespecial 26, 3) := by decide +kernel
theorem dX2_init_75 : decode cX2_init 75 = .ok (.aastore, 1) := by decide +kernel
theorem dX2_init_76 : decode cX2_init 76 = .ok (.iinc 1 1, 3) := by decide +kernel
theorem dX2_init_79 : decode cX2_init 79 = .ok (.goto (-21), 3) := by decide +kernel
theorem dX2_init_82 : decode cX2_init 82 = .ok (.return_, 1) := by decide +kernel
set_option maxRecDepth 20000 in
theorem ggX2_deposit_X2_checkIndex : GoodIn wsX2_deposit wsX2_checkIndex := goodIn_ca (goodIn_r _ [6, 7, 8] (by decide +kernel) (by decide +kernel)) (goodIn_sub (fun _ h => List.mem_cons_of_mem _ (List.mem_append_left _ (List.mem_append_right _ h))) (by decide +kernel))
set_option maxRecDepth 20000 in
theorem gX2_deposit_X2_checkIndex : GoodIn wsX2_deposit (va_wsS RX2 27 yX2_checkIndex wsX2_checkIndex) := goodIn_app (goodIn_of _ (by decide +kernel)) ggX2_deposit_X2_checkIndex
set_option maxRecDepth 20000 in
theorem ggX2_deposit_X2_checkRange : GoodIn wsX2_deposit wsX2_checkRange := goodIn_ca (goodIn_r _ [11, 12, 13] (by decide +kernel) (by decide +kernel)) (goodIn_sub (fun _ h => List.mem_cons_of_mem _ (List.mem_append_right _ h)) (by decide +kernel))
set_option maxRecDepth 20000 in
theorem gX2_deposit_X2_checkRange : GoodIn wsX2_deposit (va_wsS RX2 32 yX2_checkRange wsX2_checkRange) := goodIn_app (goodIn_of _ (by decide +kernel)) ggX2_deposit_X2_checkRange
theorem dX2_deposit_0 : decode cX2_deposit 0 = .ok (.iload_n 1, 1) := by decide +kernel
theorem dX2_deposit_1 : decode cX2_deposit 1 = .ok (.bipush 6, 2) := by decide +kernel
theorem dX2_deposit_3 : decode cX2_deposit 3 = .ok (.invokestatic 27, 3) := by decide +kernel
theorem dX2_deposit_6 : decode cX2_deposit 6 = .ok (.iload_n 2, 1) := by decide +kernel
theorem dX2_deposit_7 : decode cX2_deposit 7 = .ok (.iconst 1, 1) := by decide +kernel
theorem dX2_deposit_8 : decode cX2_deposit 8 = .ok (.ldc 31, 2) := by decide +kernel
theorem dX2_deposit_10 : decode cX2_deposit 10 = .ok (.invokestatic 32, 3) := by decide +kernel
theorem dX2_deposit_13 : decode cX2_deposit 13 = .ok (.aload_n 0, 1) := by decide +kernel
theorem dX2_deposit_14 : decode cX2_deposit 14 = .ok (.getfield 9, 3) := by decide +kernel
theorem dX2_deposit_17 : decode cX2_deposit 17 = .ok (.iload_n 1, 1) := by decide +kernel
theorem dX2_deposit_18 : decode cX2_deposit 18 = .ok (.dup2, 1) := by decide +kernel
theorem dX2_deposit_19 : decode cX2_deposit 19 = .ok (.iaload, 1) := by decide +kernel
theorem dX2_deposit_20 : decode cX2_deposit 20 = .ok (.iload_n 2, 1) := by decide +kernel
theorem dX2_deposit_21 : decode cX2_deposit 21 = .ok (.iadd, 1) := by decide +kernel
theorem dX2_deposit_22 : decode cX2_deposit 22 = .ok (.iastore, 1) := by decide +kernel
theorem dX2_deposit_23 : decode cX2_deposit 23 = .ok (.aload_n 0, 1) := by decide +kernel
theorem dX2_deposit_24 : decode cX2_deposit 24 = .ok (.getfield 9, 3) := by decide +kernel
theorem dX2_deposit_27 : decode cX2_deposit 27 = .ok (.iload_n 1, 1) := by decide +kernel
theorem dX2_deposit_28 : decode cX2_deposit 28 = .ok (.iaload, 1) := by decide +kernel
theorem dX2_deposit_29 : decode cX2_deposit 29 = .ok (.ireturn, 1) := by decide +kernel
set_option maxRecDepth 20000 in
theorem ggX2_funds_X2_checkIndex : GoodIn wsX2_funds wsX2_checkIndex := goodIn_ca (goodIn_r _ [5, 6, 7] (by decide +kernel) (by decide +kernel)) (goodIn_sub (fun _ h => List.mem_cons_of_mem _ (List.mem_append_right _ h)) (by decide +kernel))
set_option maxRecDepth 20000 in
theorem gX2_funds_X2_checkIndex : GoodIn wsX2_funds (va_wsS RX2 27 yX2_checkIndex wsX2_checkIndex) := goodIn_app (goodIn_of _ (by decide +kernel)) ggX2_funds_X2_checkIndex
theorem dX2_funds_0 : decode cX2_funds 0 = .ok (.iload_n 1, 1) := by decide +kernel
theorem dX2_funds_1 : decode cX2_funds 1 = .ok (.bipush 6, 2) := by decide +kernel
theorem dX2_funds_3 : decode cX2_funds 3 = .ok (.invokestatic 27, 3) := by decide +kernel
theorem dX2_funds_6 : decode cX2_funds 6 = .ok (.aload_n 0, 1) := by decide +kernel
theorem dX2_funds_7 : decode cX2_funds 7 = .ok (.getfield 9, 3) := by decide +kernel
theorem dX2_funds_10 : decode cX2_funds 10 = .ok (.iload_n 1, 1) := by decide +kernel
theorem dX2_funds_11 : decode cX2_funds 11 = .ok (.iaload, 1) := by decide +kernel
theorem dX2_funds_12 : decode cX2_funds 12 = .ok (.ireturn, 1) := by decide +kernel
set_option maxRecDepth 20000 in
theorem ggX2_bid_X2_checkIndex : GoodIn wsX2_bid wsX2_checkIndex := goodIn_ca (goodIn_r _ [8, 9, 10] (by decide +kernel) (by decide +kernel)) (goodIn_sub (fun _ h => List.mem_cons_of_mem _ (List.mem_append_left _ (List.mem_append_left _ (List.mem_append_right _ h)))) (by decide +kernel))
set_option maxRecDepth 20000 in
theorem gX2_bid_X2_checkIndex : GoodIn wsX2_bid (va_wsS RX2 27 yX2_checkIndex wsX2_checkIndex) := goodIn_app (goodIn_of _ (by decide +kernel)) ggX2_bid_X2_checkIndex
set_option maxRecDepth 20000 in
theorem ggX2_bid_X2_checkRange : GoodIn wsX2_bid wsX2_checkRange := goodIn_ca (goodIn_r _ [13, 14, 15] (by decide +kernel) (by decide +kernel)) (goodIn_sub (fun _ h => List.mem_cons_of_mem _ (List.mem_append_left _ (List.mem_append_right _ h))) (by decide +kernel))
set_option maxRecDepth 20000 in
theorem gX2_bid_X2_checkRange : GoodIn wsX2_bid (va_wsS RX2 32 yX2_checkRange wsX2_checkRange) := goodIn_app (goodIn_of _ (by decide +kernel)) ggX2_bid_X2_checkRange
set_option maxRecDepth 20000 in
theorem ggX2_bid_X2_checkPossible : GoodIn wsX2_bid wsX2_checkPossible := goodIn_ca (goodIn_r _ [18, 19, 20] (by decide +kernel) (by decide +kernel)) (goodIn_sub (fun _ h => List.mem_cons_of_mem _ (List.mem_append_right _ h)) (by decide +kernel))
set_option maxRecDepth 20000 in
theorem gX2_bid_X2_checkPossible : GoodIn wsX2_bid (va_wsS RX2 40 yX2_checkPossible wsX2_checkPossible) := goodIn_app (goodIn_of _ (by decide +kernel)) ggX2_bid_X2_checkPossible
set_option maxRecDepth 20000 in
theorem ggX2_bid_X0_beginAuction : GoodIn wsX2_bid wsX0_beginAuction := goodIn_r _ [24, 25, 26, 33, 34, 35, 36, 37, 38, 39, 40, 41, 42, 43] (by decide +kernel) (by decide +kernel)
set_option maxRecDepth 20000 in
theorem gX2_bid_X0_beginAuction_n47 : GoodIn wsX2_bid (wsX0_beginAuction) := ggX2_bid_X0_beginAuction
theorem dX2_bid_0 : decode cX2_bid 0 = .ok (.iload_n 1, 1) := by decide +kernel
theorem dX2_bid_1 : decode cX2_bid 1 = .ok (.bipush 6, 2) := by decide +kernel
theorem dX2_bid_3 : decode cX2_bid 3 = .ok (.invokestatic 27, 3) := by decide +kernel
theorem dX2_bid_6 : decode cX2_bid 6 = .ok (.iload_n 2, 1) := by decide +kernel
theorem dX2_bid_7 : decode cX2_bid 7 = .ok (.bipush 16, 2) := by decide +kernel
theorem dX2_bid_9 : decode cX2_bid 9 = .ok (.invokestatic 27, 3) := by decide +kernel
theorem dX2_bid_12 : decode cX2_bid 12 = .ok (.iload_n 3, 1) := by decide +kernel
theorem dX2_bid_13 : decode cX2_bid 13 = .ok (.bipush 10, 2) := by decide +kernel
theorem dX2_bid_15 : decode cX2_bid 15 = .ok (.ldc 31, 2) := by decide +kernel
theorem dX2_bid_17 : decode cX2_bid 17 = .ok (.invokestatic 32, 3) := by decide +kernel
theorem dX2_bid_20 : decode cX2_bid 20 = .ok (.aload_n 0, 1) := by decide +kernel
theorem dX2_bid_21 : decode cX2_bid 21 = .ok (.getfield 15, 3) := by decide +kernel
theorem dX2_bid_24 : decode cX2_bid 24 = .ok (.iload_n 2, 1) := by decide +kernel
theorem dX2_bid_25 : decode cX2_bid 25 = .ok (.aaload, 1) := by decide +kernel
theorem dX2_bid_26 : decode cX2_bid 26 = .ok (.astore 4, 2) := by decide +kernel
theorem dX2_bid_28 : decode cX2_bid 28 = .ok (.aload 4, 2) := by decide +kernel
theorem dX2_bid_30 : decode cX2_bid 30 = .ok (.getfield 36, 3) := by decide +kernel
theorem dX2_bid_33 : decode cX2_bid 33 = .ok (.ifCond .eq 12, 3) := by decide +kernel
theorem dX2_bid_36 : decode cX2_bid 36 = .ok (.aload 4, 2) := by decide +kernel
theorem dX2_bid_38 : decode cX2_bid 38 = .ok (.getfield 36, 3) := by decide +kernel
theorem dX2_bid_41 : decode cX2_bid 41 = .ok (.iconst 1, 1) := by decide +kernel
theorem dX2_bid_42 : decode cX2_bid 42 = .ok (.if_icmp .ne 7, 3) := by decide +kernel
theorem dX2_bid_45 : decode cX2_bid 45 = .ok (.iconst 1, 1) := by decide +kernel
theorem dX2_bid_46 : decode cX2_bid 46 = .ok (.goto 4, 3) := by decide +kernel
theorem dX2_bid_49 : decode cX2_bid 49 = .ok (.iconst 0, 1) := by decide +kernel
theorem dX2_bid_50 : decode cX2_bid 50 = .ok (.invokestatic 40, 3) := by decide +kernel
theorem dX2_bid_53 : decode cX2_bid 53 = .ok (.aload 4, 2) := by decide +kernel
theorem dX2_bid_55 : decode cX2_bid 55 = .ok (.getfield 36, 3) := by decide +kernel
theorem dX2_bid_58 : decode cX2_bid 58 = .ok (.ifCond .ne 12, 3) := by decide +kernel
theorem dX2_bid_61 : decode cX2_bid 61 = .ok (.aload 4, 2) := by decide +kernel
theorem dX2_bid_63 : decode cX2_bid 63 = .ok (.aload_n 0, 1) := by decide +kernel
theorem dX2_bid_64 : decode cX2_bid 64 = .ok (.getfield 44, 3) := by decide +kernel
theorem dX2_bid_67 : decode cX2_bid 67 = .ok (.invokevirtual 47, 3) := by decide +kernel
theorem dX2_bid_70 : decode cX2_bid 70 = .ok (.aload_n 0, 1) := by decide +kernel
theorem dX2_bid_71 : decode cX2_bid 71 = .ok (.dup, 1) := by decide +kernel
theorem dX2_bid_72 : decode cX2_bid 72 = .ok (.getfield 51, 3) := by decide +kernel
theorem dX2_bid_75 : decode cX2_bid 75 = .ok (.iconst 1, 1) := by decide +kernel
theorem dX2_bid_76 : decode cX2_bid 76 = .ok (.iadd, 1) := by decide +kernel
theorem dX2_bid_77 : decode cX2_bid 77 = .ok (.putfield 51, 3) := by decide +kernel
theorem dX2_bid_80 : decode cX2_bid 80 = .ok (.aload 4, 2) := by decide +kernel
theorem dX2_bid_82 : decode cX2_bid 82 = .ok (.getfield 54, 3) := by decide +kernel
theorem dX2_bid_85 : decode cX2_bid 85 = .ok (.iload_n 1, 1) := by decide +kernel
theorem dX2_bid_86 : decode cX2_bid 86 = .ok (.iload_n 3, 1) := by decide +kernel
theorem dX2_bid_87 : decode cX2_bid 87 = .ok (.iastore, 1) := by decide +kernel
theorem dX2_bid_88 : decode cX2_bid 88 = .ok (.aload 4, 2) := by decide +kernel
theorem dX2_bid_90 : decode cX2_bid 90 = .ok (.getfield 57, 3) := by decide +kernel
theorem dX2_bid_93 : decode cX2_bid 93 = .ok (.iload_n 1, 1) := by decide +kernel
theorem dX2_bid_94 : decode cX2_bid 94 = .ok (.aload_n 0, 1) := by decide +kernel
theorem dX2_bid_95 : decode cX2_bid 95 = .ok (.getfield 51, 3) := by decide +kernel
theorem dX2_bid_98 : decode cX2_bid 98 = .ok (.iastore, 1) := by decide +kernel
theorem dX2_bid_99 : decode cX2_bid 99 = .ok (.aload 4, 2) := by decide +kernel
theorem dX2_bid_101 : decode cX2_bid 101 = .ok (.getfield 60, 3) := by decide +kernel
theorem dX2_bid_104 : decode cX2_bid 104 = .ok (.ireturn, 1) := by decide +kernel
set_option maxRecDepth 20000 in
theorem ggX2_bids_X2_checkIndex : GoodIn wsX2_bids wsX2_checkIndex := goodIn_ca (goodIn_r _ [5, 6, 7] (by decide +kernel) (by decide +kernel)) (goodIn_sub (fun _ h => List.mem_cons_of_mem _ (List.mem_append_right _ h)) (by decide +kernel))
set_option maxRecDepth 20000 in
theorem gX2_bids_X2_checkIndex : GoodIn wsX2_bids (va_wsS RX2 27 yX2_checkIndex wsX2_checkIndex) := goodIn_app (goodIn_of _ (by decide +kernel)) ggX2_bids_X2_checkIndex
set_option maxRecDepth 20000 in
theorem ggX2_bids_X0_countBids : GoodIn wsX2_bids wsX0_countBids := goodIn_r _ [11, 12, 19, 20, 21, 22, 23, 24, 25, 26, 27, 28, 29] (by decide +kernel) (by decide +kernel)
set_option maxRecDepth 20000 in
theorem gX2_bids_X0_countBids_n63 : GoodIn wsX2_bids (wsX0_countBids) := ggX2_bids_X0_countBids
theorem dX2_bids_0 : decode cX2_bids 0 = .ok (.iload_n 1, 1) := by decide +kernel
theorem dX2_bids_1 : decode cX2_bids 1 = .ok (.bipush 16, 2) := by decide +kernel
theorem dX2_bids_3 : decode cX2_bids 3 = .ok (.invokestatic 27, 3) := by decide +kernel
theorem dX2_bids_6 : decode cX2_bids 6 = .ok (.aload_n 0, 1) := by decide +kernel
theorem dX2_bids_7 : decode cX2_bids 7 = .ok (.getfield 15, 3) := by decide +kernel
theorem dX2_bids_10 : decode cX2_bids 10 = .ok (.iload_n 1, 1) := by decide +kernel
theorem dX2_bids_11 : decode cX2_bids 11 = .ok (.aaload, 1) := by decide +kernel
theorem dX2_bids_12 : decode cX2_bids 12 = .ok (.invokevirtual 63, 3) := by decide +kernel
theorem dX2_bids_15 : decode cX2_bids 15 = .ok (.ireturn, 1) := by decide +kernel
set_option maxRecDepth 20000 in
theorem ggX2_renew_X2_checkIndex : GoodIn wsX2_renew wsX2_checkIndex := goodIn_ca (goodIn_r _ [6, 7, 8] (by decide +kernel) (by decide +kernel)) (goodIn_sub (fun _ h => List.mem_cons_of_mem _ (List.mem_append_left _ (List.mem_append_left _ (List.mem_append_right _ h)))) (by decide +kernel))
set_option maxRecDepth 20000 in
theorem gX2_renew_X2_checkIndex : GoodIn wsX2_renew (va_wsS RX2 27 yX2_checkIndex wsX2_checkIndex) := goodIn_app (goodIn_of _ (by decide +kernel)) ggX2_renew_X2_checkIndex
set_option maxRecDepth 20000 in
theorem ggX2_renew_X2_checkRange : GoodIn wsX2_renew wsX2_checkRange := goodIn_ca (goodIn_r _ [11, 12, 13] (by decide +kernel) (by decide +kernel)) (goodIn_sub (fun _ h => List.mem_cons_of_mem _ (List.mem_append_left _ (List.mem_append_right _ h))) (by decide +kernel))
set_option maxRecDepth 20000 in
theorem gX2_renew_X2_checkRange : GoodIn wsX2_renew (va_wsS RX2 32 yX2_checkRange wsX2_checkRange) := goodIn_app (goodIn_of _ (by decide +kernel)) ggX2_renew_X2_checkRange
set_option maxRecDepth 20000 in
theorem ggX2_renew_X2_isHeld : GoodIn wsX2_renew wsX2_isHeld := goodIn_r _ [16] (by decide +kernel) (by decide +kernel)
set_option maxRecDepth 20000 in
theorem gX2_renew_X2_isHeld : GoodIn wsX2_renew (va_wsS RX2 70 yX2_isHeld wsX2_isHeld) := goodIn_app (goodIn_of _ (by decide +kernel)) ggX2_renew_X2_isHeld
set_option maxRecDepth 20000 in
theorem ggX2_renew_X2_canPay : GoodIn wsX2_renew wsX2_canPay := goodIn_r _ [20, 21, 32, 33, 34, 35, 36, 37] (by decide +kernel) (by decide +kernel)
set_option maxRecDepth 20000 in
theorem gX2_renew_X2_canPay : GoodIn wsX2_renew (wsV RX2 77 RX2 yX2_canPay wsX2_canPay) := goodIn_app (goodIn_of _ (by decide +kernel)) ggX2_renew_X2_canPay
set_option maxRecDepth 20000 in
theorem ggX2_renew_X2_checkPossible : GoodIn wsX2_renew wsX2_checkPossible := goodIn_ca (goodIn_r _ [24, 25, 26] (by decide +kernel) (by decide +kernel)) (goodIn_sub (fun _ h => List.mem_cons_of_mem _ (List.mem_append_right _ h)) (by decide +kernel))
set_option maxRecDepth 20000 in
theorem gX2_renew_X2_checkPossible : GoodIn wsX2_renew (va_wsS RX2 40 yX2_checkPossible wsX2_checkPossible) := goodIn_app (goodIn_of _ (by decide +kernel)) ggX2_renew_X2_checkPossible
set_option maxRecDepth 20000 in
theorem ggX2_renew_X2_pay : GoodIn wsX2_renew wsX2_pay := goodIn_r _ [30, 21, 31, 17, 18, 19, 5, 20, 32, 33, 34, 35, 36, 37] (by decide +kernel) (by decide +kernel)
set_option maxRecDepth 20000 in
theorem gX2_renew_X2_pay : GoodIn wsX2_renew (wsV RX2 81 RX2 yX2_pay wsX2_pay) := goodIn_app (goodIn_of _ (by decide +kernel)) ggX2_renew_X2_pay
theorem dX2_renew_0 : decode cX2_renew 0 = .ok (.iload_n 1, 1) := by decide +kernel
theorem dX2_renew_1 : decode cX2_renew 1 = .ok (.bipush 16, 2) := by decide +kernel
theorem dX2_renew_3 : decode cX2_renew 3 = .ok (.invokestatic 27, 3) := by decide +kernel
theorem dX2_renew_6 : decode cX2_renew 6 = .ok (.iload_n 2, 1) := by decide +kernel
theorem dX2_renew_7 : decode cX2_renew 7 = .ok (.iconst 1, 1) := by decide +kernel
theorem dX2_renew_8 : decode cX2_renew 8 = .ok (.iconst 5, 1) := by decide +kernel
theorem dX2_renew_9 : decode cX2_renew 9 = .ok (.invokestatic 32, 3) := by decide +kernel
theorem dX2_renew_12 : decode cX2_renew 12 = .ok (.aload_n 0, 1) := by decide +kernel
theorem dX2_renew_13 : decode cX2_renew 13 = .ok (.getfield 15, 3) := by decide +kernel
theorem dX2_renew_16 : decode cX2_renew 16 = .ok (.iload_n 1, 1) := by decide +kernel
theorem dX2_renew_17 : decode cX2_renew 17 = .ok (.aaload, 1) := by decide +kernel
theorem dX2_renew_18 : decode cX2_renew 18 = .ok (.astore_n 3, 1) := by decide +kernel
theorem dX2_renew_19 : decode cX2_renew 19 = .ok (.aload_n 3, 1) := by decide +kernel
theorem dX2_renew_20 : decode cX2_renew 20 = .ok (.getfield 67, 3) := by decide +kernel
theorem dX2_renew_23 : decode cX2_renew 23 = .ok (.iload_n 2, 1) := by decide +kernel
theorem dX2_renew_24 : decode cX2_renew 24 = .ok (.bipush 100, 2) := by decide +kernel
theorem dX2_renew_26 : decode cX2_renew 26 = .ok (.imul, 1) := by decide +kernel
theorem dX2_renew_27 : decode cX2_renew 27 = .ok (.iadd, 1) := by decide +kernel
theorem dX2_renew_28 : decode cX2_renew 28 = .ok (.istore 4, 2) := by decide +kernel
theorem dX2_renew_30 : decode cX2_renew 30 = .ok (.iload_n 2, 1) := by decide +kernel
theorem dX2_renew_31 : decode cX2_renew 31 = .ok (.bipush 20, 2) := by decide +kernel
theorem dX2_renew_33 : decode cX2_renew 33 = .ok (.imul, 1) := by decide +kernel
theorem dX2_renew_34 : decode cX2_renew 34 = .ok (.istore 5, 2) := by decide +kernel
theorem dX2_renew_36 : decode cX2_renew 36 = .ok (.aload_n 3, 1) := by decide +kernel
theorem dX2_renew_37 : decode cX2_renew 37 = .ok (.getfield 36, 3) := by decide +kernel
theorem dX2_renew_40 : decode cX2_renew 40 = .ok (.invokestatic 70, 3) := by decide +kernel
theorem dX2_renew_43 : decode cX2_renew 43 = .ok (.ifCond .eq 33, 3) := by decide +kernel
theorem dX2_renew_46 : decode cX2_renew 46 = .ok (.iload 4, 2) := by decide +kernel
theorem dX2_renew_48 : decode cX2_renew 48 = .ok (.aload_n 0, 1) := by decide +kernel
theorem dX2_renew_49 : decode cX2_renew 49 = .ok (.getfield 44, 3) := by decide +kernel
theorem dX2_renew_52 : decode cX2_renew 52 = .ok (.sipush 600, 3) := by decide +kernel
theorem dX2_renew_55 : decode cX2_renew 55 = .ok (.iadd, 1) := by decide +kernel
theorem dX2_renew_56 : decode cX2_renew 56 = .ok (.if_icmp .gt 20, 3) := by decide +kernel
theorem dX2_renew_59 : decode cX2_renew 59 = .ok (.aload_n 0, 1) := by decide +kernel
theorem dX2_renew_60 : decode cX2_renew 60 = .ok (.aload_n 3, 1) := by decide +kernel
theorem dX2_renew_61 : decode cX2_renew 61 = .ok (.getfield 74, 3) := by decide +kernel
theorem dX2_renew_64 : decode cX2_renew 64 = .ok (.iload 5, 2) := by decide +kernel
theorem dX2_renew_66 : decode cX2_renew 66 = .ok (.invokevirtual 77, 3) := by decide +kernel
theorem dX2_renew_69 : decode cX2_renew 69 = .ok (.ifCond .eq 7, 3) := by decide +kernel
theorem dX2_renew_72 : decode cX2_renew 72 = .ok (.iconst 1, 1) := by decide +kernel
theorem dX2_renew_73 : decode cX2_renew 73 = .ok (.goto 4, 3) := by decide +kernel
theorem dX2_renew_76 : decode cX2_renew 76 = .ok (.iconst 0, 1) := by decide +kernel
theorem dX2_renew_77 : decode cX2_renew 77 = .ok (.invokestatic 40, 3) := by decide +kernel
theorem dX2_renew_80 : decode cX2_renew 80 = .ok (.aload_n 0, 1) := by decide +kernel
theorem dX2_renew_81 : decode cX2_renew 81 = .ok (.aload_n 3, 1) := by decide +kernel
theorem dX2_renew_82 : decode cX2_renew 82 = .ok (.getfield 74, 3) := by decide +kernel
theorem dX2_renew_85 : decode cX2_renew 85 = .ok (.iload 5, 2) := by decide +kernel
theorem dX2_renew_87 : decode cX2_renew 87 = .ok (.invokevirtual 81, 3) := by decide +kernel
theorem dX2_renew_90 : decode cX2_renew 90 = .ok (.aload_n 3, 1) := by decide +kernel
theorem dX2_renew_91 : decode cX2_renew 91 = .ok (.iload 4, 2) := by decide +kernel
theorem dX2_renew_93 : decode cX2_renew 93 = .ok (.putfield 67, 3) := by decide +kernel
theorem dX2_renew_96 : decode cX2_renew 96 = .ok (.aload_n 3, 1) := by decide +kernel
theorem dX2_renew_97 : decode cX2_renew 97 = .ok (.iconst 2, 1) := by decide +kernel
theorem dX2_renew_98 : decode cX2_renew 98 = .ok (.putfield 36, 3) := by decide +kernel
theorem dX2_renew_101 : decode cX2_renew 101 = .ok (.iload 4, 2) := by decide +kernel
theorem dX2_renew_103 : decode cX2_renew 103 = .ok (.ireturn, 1) := by decide +kernel
set_option maxRecDepth 20000 in
theorem ggX2_redeem_X2_checkIndex : GoodIn wsX2_redeem wsX2_checkIndex := goodIn_ca (goodIn_r _ [6, 7, 8] (by decide +kernel) (by decide +kernel)) (goodIn_sub (fun _ h => List.mem_cons_of_mem _ (List.mem_append_left _ (List.mem_append_right _ h))) (by decide +kernel))
set_option maxRecDepth 20000 in
theorem gX2_redeem_X2_checkIndex : GoodIn wsX2_redeem (va_wsS RX2 27 yX2_checkIndex wsX2_checkIndex) := goodIn_app (goodIn_of _ (by decide +kernel)) ggX2_redeem_X2_checkIndex
set_option maxRecDepth 20000 in
theorem ggX2_redeem_X2_canPay : GoodIn wsX2_redeem wsX2_canPay := goodIn_r _ [12, 13, 42, 43, 44, 45, 46, 47] (by decide +kernel) (by decide +kernel)
set_option maxRecDepth 20000 in
theorem gX2_redeem_X2_canPay : GoodIn wsX2_redeem (wsV RX2 77 RX2 yX2_canPay wsX2_canPay) := goodIn_app (goodIn_of _ (by decide +kernel)) ggX2_redeem_X2_canPay
set_option maxRecDepth 20000 in
theorem ggX2_redeem_X2_checkPossible : GoodIn wsX2_redeem wsX2_checkPossible := goodIn_ca (goodIn_r _ [16, 17, 18] (by decide +kernel) (by decide +kernel)) (goodIn_sub (fun _ h => List.mem_cons_of_mem _ (List.mem_append_right _ h)) (by decide +kernel))
set_option maxRecDepth 20000 in
theorem gX2_redeem_X2_checkPossible : GoodIn wsX2_redeem (va_wsS RX2 40 yX2_checkPossible wsX2_checkPossible) := goodIn_app (goodIn_of _ (by decide +kernel)) ggX2_redeem_X2_checkPossible
set_option maxRecDepth 20000 in
theorem ggX2_redeem_X2_pay : GoodIn wsX2_redeem wsX2_pay := goodIn_r _ [22, 13, 23, 9, 10, 11, 5, 12, 42, 43, 44, 45, 46, 47] (by decide +kernel) (by decide +kernel)
set_option maxRecDepth 20000 in
theorem gX2_redeem_X2_pay : GoodIn wsX2_redeem (wsV RX2 81 RX2 yX2_pay wsX2_pay) := goodIn_app (goodIn_of _ (by decide +kernel)) ggX2_redeem_X2_pay
set_option maxRecDepth 20000 in
theorem ggX2_redeem_X0_leaseTo : GoodIn wsX2_redeem wsX0_leaseTo := goodIn_r _ [27, 28, 29, 30, 31, 32, 33, 34, 35, 25, 36, 37, 38, 39, 40, 41, 48, 49, 50, 51, 52, 53, 54, 55, 56, 57, 58] (by decide +kernel) (by decide +kernel)
set_option maxRecDepth 20000 in
theorem gX2_redeem_X0_leaseTo_n84 : GoodIn wsX2_redeem (wsX0_leaseTo) := ggX2_redeem_X0_leaseTo
theorem dX2_redeem_0 : decode cX2_redeem 0 = .ok (.iload_n 1, 1) := by decide +kernel
theorem dX2_redeem_1 : decode cX2_redeem 1 = .ok (.bipush 16, 2) := by decide +kernel
theorem dX2_redeem_3 : decode cX2_redeem 3 = .ok (.invokestatic 27, 3) := by decide +kernel
theorem dX2_redeem_6 : decode cX2_redeem 6 = .ok (.aload_n 0, 1) := by decide +kernel
theorem dX2_redeem_7 : decode cX2_redeem 7 = .ok (.getfield 15, 3) := by decide +kernel
theorem dX2_redeem_10 : decode cX2_redeem 10 = .ok (.iload_n 1, 1) := by decide +kernel
theorem dX2_redeem_11 : decode cX2_redeem 11 = .ok (.aaload, 1) := by decide +kernel
theorem dX2_redeem_12 : decode cX2_redeem 12 = .ok (.astore_n 2, 1) := by decide +kernel
theorem dX2_redeem_13 : decode cX2_redeem 13 = .ok (.aload_n 2, 1) := by decide +kernel
theorem dX2_redeem_14 : decode cX2_redeem 14 = .ok (.getfield 36, 3) := by decide +kernel
theorem dX2_redeem_17 : decode cX2_redeem 17 = .ok (.iconst 4, 1) := by decide +kernel
theorem dX2_redeem_18 : decode cX2_redeem 18 = .ok (.if_icmp .ne 20, 3) := by decide +kernel
theorem dX2_redeem_21 : decode cX2_redeem 21 = .ok (.aload_n 0, 1) := by decide +kernel
theorem dX2_redeem_22 : decode cX2_redeem 22 = .ok (.aload_n 2, 1) := by decide +kernel
theorem dX2_redeem_23 : decode cX2_redeem 23 = .ok (.getfield 74, 3) := by decide +kernel
theorem dX2_redeem_26 : decode cX2_redeem 26 = .ok (.bipush 50, 2) := by decide +kernel
theorem dX2_redeem_28 : decode cX2_redeem 28 = .ok (.invokevirtual 77, 3) := by decide +kernel
theorem dX2_redeem_31 : decode cX2_redeem 31 = .ok (.ifCond .eq 7, 3) := by decide +kernel
theorem dX2_redeem_34 : decode cX2_redeem 34 = .ok (.iconst 1, 1) := by decide +kernel
theorem dX2_redeem_35 : decode cX2_redeem 35 = .ok (.goto 4, 3) := by decide +kernel
theorem dX2_redeem_38 : decode cX2_redeem 38 = .ok (.iconst 0, 1) := by decide +kernel
theorem dX2_redeem_39 : decode cX2_redeem 39 = .ok (.invokestatic 40, 3) := by decide +kernel
theorem dX2_redeem_42 : decode cX2_redeem 42 = .ok (.aload_n 0, 1) := by decide +kernel
theorem dX2_redeem_43 : decode cX2_redeem 43 = .ok (.aload_n 2, 1) := by decide +kernel
theorem dX2_redeem_44 : decode cX2_redeem 44 = .ok (.getfield 74, 3) := by decide +kernel
theorem dX2_redeem_47 : decode cX2_redeem 47 = .ok (.bipush 50, 2) := by decide +kernel
theorem dX2_redeem_49 : decode cX2_redeem 49 = .ok (.invokevirtual 81, 3) := by decide +kernel
theorem dX2_redeem_52 : decode cX2_redeem 52 = .ok (.aload_n 2, 1) := by decide +kernel
theorem dX2_redeem_53 : decode cX2_redeem 53 = .ok (.aload_n 2, 1) := by decide +kernel
theorem dX2_redeem_54 : decode cX2_redeem 54 = .ok (.getfield 74, 3) := by decide +kernel
theorem dX2_redeem_57 : decode cX2_redeem 57 = .ok (.aload_n 0, 1) := by decide +kernel
theorem dX2_redeem_58 : decode cX2_redeem 58 = .ok (.getfield 44, 3) := by decide +kernel
theorem dX2_redeem_61 : decode cX2_redeem 61 = .ok (.invokevirtual 84, 3) := by decide +kernel
theorem dX2_redeem_64 : decode cX2_redeem 64 = .ok (.aload_n 2, 1) := by decide +kernel
theorem dX2_redeem_65 : decode cX2_redeem 65 = .ok (.getfield 67, 3) := by decide +kernel
theorem dX2_redeem_68 : decode cX2_redeem 68 = .ok (.ireturn, 1) := by decide +kernel
set_option maxRecDepth 20000 in
theorem ggX2_setRecord_X2_checkIndex : GoodIn wsX2_setRecord wsX2_checkIndex := goodIn_ca (goodIn_r _ [5, 6, 7] (by decide +kernel) (by decide +kernel)) (goodIn_sub (fun _ h => List.mem_cons_of_mem _ (List.mem_append_left _ (List.mem_append_left _ (List.mem_append_right _ h)))) (by decide +kernel))
set_option maxRecDepth 20000 in
theorem gX2_setRecord_X2_checkIndex : GoodIn wsX2_setRecord (va_wsS RX2 27 yX2_checkIndex wsX2_checkIndex) := goodIn_app (goodIn_of _ (by decide +kernel)) ggX2_setRecord_X2_checkIndex
set_option maxRecDepth 20000 in
theorem ggX2_setRecord_X2_checkRange : GoodIn wsX2_setRecord wsX2_checkRange := goodIn_ca (goodIn_r _ [10, 11, 12] (by decide +kernel) (by decide +kernel)) (goodIn_sub (fun _ h => List.mem_cons_of_mem _ (List.mem_append_left _ (List.mem_append_right _ h))) (by decide +kernel))
set_option maxRecDepth 20000 in
theorem gX2_setRecord_X2_checkRange : GoodIn wsX2_setRecord (va_wsS RX2 32 yX2_checkRange wsX2_checkRange) := goodIn_app (goodIn_of _ (by decide +kernel)) ggX2_setRecord_X2_checkRange
set_option maxRecDepth 20000 in
theorem ggX2_setRecord_X2_checkPossible : GoodIn wsX2_setRecord wsX2_checkPossible := goodIn_ca (goodIn_r _ [15, 16, 17] (by decide +kernel) (by decide +kernel)) (goodIn_sub (fun _ h => List.mem_cons_of_mem _ (List.mem_append_right _ h)) (by decide +kernel))
set_option maxRecDepth 20000 in
theorem gX2_setRecord_X2_checkPossible : GoodIn wsX2_setRecord (va_wsS RX2 40 yX2_checkPossible wsX2_checkPossible) := goodIn_app (goodIn_of _ (by decide +kernel)) ggX2_setRecord_X2_checkPossible
theorem dX2_setRecord_0 : decode cX2_setRecord 0 = .ok (.iload_n 1, 1) := by decide +kernel
theorem dX2_setRecord_1 : decode cX2_setRecord 1 = .ok (.bipush 16, 2) := by decide +kernel
theorem dX2_setRecord_3 : decode cX2_setRecord 3 = .ok (.invokestatic 27, 3) := by decide +kernel
theorem dX2_setRecord_6 : decode cX2_setRecord 6 = .ok (.iload_n 2, 1) := by decide +kernel
theorem dX2_setRecord_7 : decode cX2_setRecord 7 = .ok (.iconst 0, 1) := by decide +kernel
theorem dX2_setRecord_8 : decode cX2_setRecord 8 = .ok (.sipush 999, 3) := by decide +kernel
theorem dX2_setRecord_11 : decode cX2_setRecord 11 = .ok (.invokestatic 32, 3) := by decide +kernel
theorem dX2_setRecord_14 : decode cX2_setRecord 14 = .ok (.iload_n 3, 1) := by decide +kernel
theorem dX2_setRecord_15 : decode cX2_setRecord 15 = .ok (.iconst 1, 1) := by decide +kernel
theorem dX2_setRecord_16 : decode cX2_setRecord 16 = .ok (.bipush 50, 2) := by decide +kernel
theorem dX2_setRecord_18 : decode cX2_setRecord 18 = .ok (.invokestatic 32, 3) := by decide +kernel
theorem dX2_setRecord_21 : decode cX2_setRecord 21 = .ok (.aload_n 0, 1) := by decide +kernel
theorem dX2_setRecord_22 : decode cX2_setRecord 22 = .ok (.getfield 15, 3) := by decide +kernel
theorem dX2_setRecord_25 : decode cX2_setRecord 25 = .ok (.iload_n 1, 1) := by decide +kernel
theorem dX2_setRecord_26 : decode cX2_setRecord 26 = .ok (.aaload, 1) := by decide +kernel
theorem dX2_setRecord_27 : decode cX2_setRecord 27 = .ok (.astore 4, 2) := by decide +kernel
theorem dX2_setRecord_29 : decode cX2_setRecord 29 = .ok (.aload 4, 2) := by decide +kernel
theorem dX2_setRecord_31 : decode cX2_setRecord 31 = .ok (.getfield 36, 3) := by decide +kernel
theorem dX2_setRecord_34 : decode cX2_setRecord 34 = .ok (.iconst 2, 1) := by decide +kernel
theorem dX2_setRecord_35 : decode cX2_setRecord 35 = .ok (.if_icmp .ne 7, 3) := by decide +kernel
theorem dX2_setRecord_38 : decode cX2_setRecord 38 = .ok (.iconst 1, 1) := by decide +kernel
theorem dX2_setRecord_39 : decode cX2_setRecord 39 = .ok (.goto 4, 3) := by decide +kernel
theorem dX2_setRecord_42 : decode cX2_setRecord 42 = .ok (.iconst 0, 1) := by decide +kernel
theorem dX2_setRecord_43 : decode cX2_setRecord 43 = .ok (.invokestatic 40, 3) := by decide +kernel
theorem dX2_setRecord_46 : decode cX2_setRecord 46 = .ok (.aload 4, 2) := by decide +kernel
theorem dX2_setRecord_48 : decode cX2_setRecord 48 = .ok (.getfield 87, 3) := by decide +kernel
theorem dX2_setRecord_51 : decode cX2_setRecord 51 = .ok (.istore 5, 2) := by decide +kernel
theorem dX2_setRecord_53 : decode cX2_setRecord 53 = .ok (.aload 4, 2) := by decide +kernel
theorem dX2_setRecord_55 : decode cX2_setRecord 55 = .ok (.iload_n 2, 1) := by decide +kernel
theorem dX2_setRecord_56 : decode cX2_setRecord 56 = .ok (.putfield 87, 3) := by decide +kernel
theorem dX2_setRecord_59 : decode cX2_setRecord 59 = .ok (.aload 4, 2) := by decide +kernel
theorem dX2_setRecord_61 : decode cX2_setRecord 61 = .ok (.iload_n 3, 1) := by decide +kernel
theorem dX2_setRecord_62 : decode cX2_setRecord 62 = .ok (.putfield 90, 3) := by decide +kernel
theorem dX2_setRecord_65 : decode cX2_setRecord 65 = .ok (.iload 5, 2) := by decide +kernel
theorem dX2_setRecord_67 : decode cX2_setRecord 67 = .ok (.ireturn, 1) := by decide +kernel
set_option maxRecDepth 20000 in
theorem ggX2_state_X2_checkIndex : GoodIn wsX2_state wsX2_checkIndex := goodIn_ca (goodIn_r _ [5, 6, 7] (by decide +kernel) (by decide +kernel)) (goodIn_sub (fun _ h => List.mem_cons_of_mem _ (List.mem_append_right _ h)) (by decide +kernel))
set_option maxRecDepth 20000 in
theorem gX2_state_X2_checkIndex : GoodIn wsX2_state (va_wsS RX2 27 yX2_checkIndex wsX2_checkIndex) := goodIn_app (goodIn_of _ (by decide +kernel)) ggX2_state_X2_checkIndex
theorem dX2_state_0 : decode cX2_state 0 = .ok (.iload_n 1, 1) := by decide +kernel
theorem dX2_state_1 : decode cX2_state 1 = .ok (.bipush 16, 2) := by decide +kernel
theorem dX2_state_3 : decode cX2_state 3 = .ok (.invokestatic 27, 3) := by decide +kernel
theorem dX2_state_6 : decode cX2_state 6 = .ok (.aload_n 0, 1) := by decide +kernel
theorem dX2_state_7 : decode cX2_state 7 = .ok (.getfield 15, 3) := by decide +kernel
theorem dX2_state_10 : decode cX2_state 10 = .ok (.iload_n 1, 1) := by decide +kernel
theorem dX2_state_11 : decode cX2_state 11 = .ok (.aaload, 1) := by decide +kernel
theorem dX2_state_12 : decode cX2_state 12 = .ok (.getfield 36, 3) := by decide +kernel
theorem dX2_state_15 : decode cX2_state 15 = .ok (.ireturn, 1) := by decide +kernel
set_option maxRecDepth 20000 in
theorem ggX2_sign_X2_checkIndex : GoodIn wsX2_sign wsX2_checkIndex := goodIn_ca (goodIn_r _ [5, 6, 7] (by decide +kernel) (by decide +kernel)) (goodIn_sub (fun _ h => List.mem_cons_of_mem _ (List.mem_append_right _ h)) (by decide +kernel))
set_option maxRecDepth 20000 in
theorem gX2_sign_X2_checkIndex : GoodIn wsX2_sign (va_wsS RX2 27 yX2_checkIndex wsX2_checkIndex) := goodIn_app (goodIn_of _ (by decide +kernel)) ggX2_sign_X2_checkIndex
set_option maxRecDepth 20000 in
theorem ggX2_sign_X2_wordOf : GoodIn wsX2_sign wsX2_wordOf := goodIn_r _ [10] (by decide +kernel) (by decide +kernel)
set_option maxRecDepth 20000 in
theorem gX2_sign_X2_wordOf : GoodIn wsX2_sign (va_wsS RX2 93 yX2_wordOf wsX2_wordOf) := goodIn_app (goodIn_of _ (by decide +kernel)) ggX2_sign_X2_wordOf
set_option maxRecDepth 20000 in
theorem ggX2_sign_J0_length_8abf5 : GoodIn wsX2_sign wsJ0_length_8abf5 := goodIn_r _ [15, 16, 17, 18, 19, 14, 20, 21, 22] (by decide +kernel) (by decide +kernel)
set_option maxRecDepth 20000 in
theorem gX2_sign_J0_length_8abf5 : GoodIn wsX2_sign (wsV RX2 97 RJ0 yJ0_length_8abf5 wsJ0_length_8abf5) := goodIn_app (goodIn_of _ (by decide +kernel)) ggX2_sign_J0_length_8abf5
set_option maxRecDepth 20000 in
theorem ggX2_sign_J0_charAt_5068e : GoodIn wsX2_sign wsJ0_charAt_5068e := goodIn_r _ [26, 16, 27, 28, 29, 14, 30, 21, 22, 31, 32, 33, 34, 35, 36, 37, 38, 39, 40, 41, 42, 43, 44, 45, 46, 47, 48, 49, 50, 51, 52, 53, 54, 55, 56, 57, 58, 59] (by decide +kernel) (by decide +kernel)
set_option maxRecDepth 20000 in
theorem gX2_sign_J0_charAt_5068e : GoodIn wsX2_sign (wsV RX2 102 RJ0 yJ0_charAt_5068e wsJ0_charAt_5068e) := goodIn_app (goodIn_of _ (by decide +kernel)) ggX2_sign_J0_charAt_5068e
theorem dX2_sign_0 : decode cX2_sign 0 = .ok (.iload_n 1, 1) := by decide +kernel
theorem dX2_sign_1 : decode cX2_sign 1 = .ok (.bipush 16, 2) := by decide +kernel
theorem dX2_sign_3 : decode cX2_sign 3 = .ok (.invokestatic 27, 3) := by decide +kernel
theorem dX2_sign_6 : decode cX2_sign 6 = .ok (.aload_n 0, 1) := by decide +kernel
theorem dX2_sign_7 : decode cX2_sign 7 = .ok (.getfield 15, 3) := by decide +kernel
theorem dX2_sign_10 : decode cX2_sign 10 = .ok (.iload_n 1, 1) := by decide +kernel
theorem dX2_sign_11 : decode cX2_sign 11 = .ok (.aaload, 1) := by decide +kernel
theorem dX2_sign_12 : decode cX2_sign 12 = .ok (.astore_n 3, 1) := by decide +kernel
theorem dX2_sign_13 : decode cX2_sign 13 = .ok (.aload_n 3, 1) := by decide +kernel
theorem dX2_sign_14 : decode cX2_sign 14 = .ok (.getfield 36, 3) := by decide +kernel
theorem dX2_sign_17 : decode cX2_sign 17 = .ok (.invokestatic 93, 3) := by decide +kernel
theorem dX2_sign_20 : decode cX2_sign 20 = .ok (.astore 4, 2) := by decide +kernel
theorem dX2_sign_22 : decode cX2_sign 22 = .ok (.aload 4, 2) := by decide +kernel
theorem dX2_sign_24 : decode cX2_sign 24 = .ok (.invokevirtual 97, 3) := by decide +kernel
theorem dX2_sign_27 : decode cX2_sign 27 = .ok (.iconst 1, 1) := by decide +kernel
theorem dX2_sign_28 : decode cX2_sign 28 = .ok (.iadd, 1) := by decide +kernel
theorem dX2_sign_29 : decode cX2_sign 29 = .ok (.istore 5, 2) := by decide +kernel
theorem dX2_sign_31 : decode cX2_sign 31 = .ok (.iload_n 2, 1) := by decide +kernel
theorem dX2_sign_32 : decode cX2_sign 32 = .ok (.aload_n 3, 1) := by decide +kernel
theorem dX2_sign_33 : decode cX2_sign 33 = .ok (.getfield 74, 3) := by decide +kernel
theorem dX2_sign_36 : decode cX2_sign 36 = .ok (.iconst (-1), 1) := by decide +kernel
theorem dX2_sign_37 : decode cX2_sign 37 = .ok (.if_icmp .ne 11, 3) := by decide +kernel
theorem dX2_sign_40 : decode cX2_sign 40 = .ok (.aload 4, 2) := by decide +kernel
theorem dX2_sign_42 : decode cX2_sign 42 = .ok (.invokevirtual 97, 3) := by decide +kernel
theorem dX2_sign_45 : decode cX2_sign 45 = .ok (.goto 7, 3) := by decide +kernel
theorem dX2_sign_48 : decode cX2_sign 48 = .ok (.iload 5, 2) := by decide +kernel
theorem dX2_sign_50 : decode cX2_sign 50 = .ok (.iconst 1, 1) := by decide +kernel
theorem dX2_sign_51 : decode cX2_sign 51 = .ok (.iadd, 1) := by decide +kernel
theorem dX2_sign_52 : decode cX2_sign 52 = .ok (.invokestatic 27, 3) := by decide +kernel
theorem dX2_sign_55 : decode cX2_sign 55 = .ok (.iload_n 2, 1) := by decide +kernel
theorem dX2_sign_56 : decode cX2_sign 56 = .ok (.aload 4, 2) := by decide +kernel
theorem dX2_sign_58 : decode cX2_sign 58 = .ok (.invokevirtual 97, 3) := by decide +kernel
theorem dX2_sign_61 : decode cX2_sign 61 = .ok (.if_icmp .ge 10, 3) := by decide +kernel
theorem dX2_sign_64 : decode cX2_sign 64 = .ok (.aload 4, 2) := by decide +kernel
theorem dX2_sign_66 : decode cX2_sign 66 = .ok (.iload_n 2, 1) := by decide +kernel
theorem dX2_sign_67 : decode cX2_sign 67 = .ok (.invokevirtual 102, 3) := by decide +kernel
theorem dX2_sign_70 : decode cX2_sign 70 = .ok (.ireturn, 1) := by decide +kernel
theorem dX2_sign_71 : decode cX2_sign 71 = .ok (.iload_n 2, 1) := by decide +kernel
theorem dX2_sign_72 : decode cX2_sign 72 = .ok (.iload 5, 2) := by decide +kernel
theorem dX2_sign_74 : decode cX2_sign 74 = .ok (.if_icmp .ne 14, 3) := by decide +kernel
theorem dX2_sign_77 : decode cX2_sign 77 = .ok (.bipush 48, 2) := by decide +kernel
theorem dX2_sign_79 : decode cX2_sign 79 = .ok (.aload_n 3, 1) := by decide +kernel
theorem dX2_sign_80 : decode cX2_sign 80 = .ok (.getfield 74, 3) := by decide +kernel
theorem dX2_sign_83 : decode cX2_sign 83 = .ok (.iadd, 1) := by decide +kernel
theorem dX2_sign_84 : decode cX2_sign 84 = .ok (.i2c, 1) := by decide +kernel
theorem dX2_sign_85 : decode cX2_sign 85 = .ok (.goto 5, 3) := by decide +kernel
theorem dX2_sign_88 : decode cX2_sign 88 = .ok (.bipush 58, 2) := by decide +kernel
theorem dX2_sign_90 : decode cX2_sign 90 = .ok (.ireturn, 1) := by decide +kernel
set_option maxRecDepth 20000 in
theorem ggX2_owner_X2_checkIndex : GoodIn wsX2_owner wsX2_checkIndex := goodIn_ca (goodIn_r _ [5, 6, 7] (by decide +kernel) (by decide +kernel)) (goodIn_sub (fun _ h => List.mem_cons_of_mem _ (List.mem_append_right _ h)) (by decide +kernel))
set_option maxRecDepth 20000 in
theorem gX2_owner_X2_checkIndex : GoodIn wsX2_owner (va_wsS RX2 27 yX2_checkIndex wsX2_checkIndex) := goodIn_app (goodIn_of _ (by decide +kernel)) ggX2_owner_X2_checkIndex
theorem dX2_owner_0 : decode cX2_owner 0 = .ok (.iload_n 1, 1) := by decide +kernel
theorem dX2_owner_1 : decode cX2_owner 1 = .ok (.bipush 16, 2) := by decide +kernel
theorem dX2_owner_3 : decode cX2_owner 3 = .ok (.invokestatic 27, 3) := by decide +kernel
theorem dX2_owner_6 : decode cX2_owner 6 = .ok (.aload_n 0, 1) := by decide +kernel
theorem dX2_owner_7 : decode cX2_owner 7 = .ok (.getfield 15, 3) := by decide +kernel
theorem dX2_owner_10 : decode cX2_owner 10 = .ok (.iload_n 1, 1) := by decide +kernel
theorem dX2_owner_11 : decode cX2_owner 11 = .ok (.aaload, 1) := by decide +kernel
theorem dX2_owner_12 : decode cX2_owner 12 = .ok (.getfield 74, 3) := by decide +kernel
theorem dX2_owner_15 : decode cX2_owner 15 = .ok (.ireturn, 1) := by decide +kernel
set_option maxRecDepth 20000 in
theorem ggX2_next_X2_checkIndex : GoodIn wsX2_next wsX2_checkIndex := goodIn_ca (goodIn_r _ [5, 6, 7] (by decide +kernel) (by decide +kernel)) (goodIn_sub (fun _ h => List.mem_cons_of_mem _ (List.mem_append_right _ h)) (by decide +kernel))
set_option maxRecDepth 20000 in
theorem gX2_next_X2_checkIndex : GoodIn wsX2_next (va_wsS RX2 27 yX2_checkIndex wsX2_checkIndex) := goodIn_app (goodIn_of _ (by decide +kernel)) ggX2_next_X2_checkIndex
set_option maxRecDepth 20000 in
theorem ggX2_next_X0_dayOfChange : GoodIn wsX2_next wsX0_dayOfChange := goodIn_r _ [11, 12, 13, 14, 21, 22, 23, 24, 25, 26, 27, 28, 29, 30, 31] (by decide +kernel) (by decide +kernel)
set_option maxRecDepth 20000 in
theorem gX2_next_X0_dayOfChange_n106 : GoodIn wsX2_next (wsX0_dayOfChange) := ggX2_next_X0_dayOfChange
theorem dX2_next_0 : decode cX2_next 0 = .ok (.iload_n 1, 1) := by decide +kernel
theorem dX2_next_1 : decode cX2_next 1 = .ok (.bipush 16, 2) := by decide +kernel
theorem dX2_next_3 : decode cX2_next 3 = .ok (.invokestatic 27, 3) := by decide +kernel
theorem dX2_next_6 : decode cX2_next 6 = .ok (.aload_n 0, 1) := by decide +kernel
theorem dX2_next_7 : decode cX2_next 7 = .ok (.getfield 15, 3) := by decide +kernel
theorem dX2_next_10 : decode cX2_next 10 = .ok (.iload_n 1, 1) := by decide +kernel
theorem dX2_next_11 : decode cX2_next 11 = .ok (.aaload, 1) := by decide +kernel
theorem dX2_next_12 : decode cX2_next 12 = .ok (.invokevirtual 106, 3) := by decide +kernel
theorem dX2_next_15 : decode cX2_next 15 = .ok (.ireturn, 1) := by decide +kernel
set_option maxRecDepth 20000 in
theorem ggX2_dispute_X2_checkIndex : GoodIn wsX2_dispute wsX2_checkIndex := goodIn_ca (goodIn_r _ [6, 7, 8] (by decide +kernel) (by decide +kernel)) (goodIn_sub (fun _ h => List.mem_cons_of_mem _ (List.mem_append_left _ (List.mem_append_right _ h))) (by decide +kernel))
set_option maxRecDepth 20000 in
theorem gX2_dispute_X2_checkIndex : GoodIn wsX2_dispute (va_wsS RX2 27 yX2_checkIndex wsX2_checkIndex) := goodIn_app (goodIn_of _ (by decide +kernel)) ggX2_dispute_X2_checkIndex
set_option maxRecDepth 20000 in
theorem ggX2_dispute_X2_isHeld : GoodIn wsX2_dispute wsX2_isHeld := goodIn_r _ [11] (by decide +kernel) (by decide +kernel)
set_option maxRecDepth 20000 in
theorem gX2_dispute_X2_isHeld : GoodIn wsX2_dispute (va_wsS RX2 70 yX2_isHeld wsX2_isHeld) := goodIn_app (goodIn_of _ (by decide +kernel)) ggX2_dispute_X2_isHeld
set_option maxRecDepth 20000 in
theorem ggX2_dispute_X2_checkPossible : GoodIn wsX2_dispute wsX2_checkPossible := goodIn_ca (goodIn_r _ [14, 15, 16] (by decide +kernel) (by decide +kernel)) (goodIn_sub (fun _ h => List.mem_cons_of_mem _ (List.mem_append_right _ h)) (by decide +kernel))
set_option maxRecDepth 20000 in
theorem gX2_dispute_X2_checkPossible : GoodIn wsX2_dispute (va_wsS RX2 40 yX2_checkPossible wsX2_checkPossible) := goodIn_app (goodIn_of _ (by decide +kernel)) ggX2_dispute_X2_checkPossible
set_option maxRecDepth 20000 in
theorem ggX2_dispute_X0_freeze : GoodIn wsX2_dispute wsX0_freeze := goodIn_r _ [20, 21, 22, 23, 24, 25, 26, 27, 18, 28, 29, 30, 31, 32, 33, 40, 41, 42, 43, 44, 45, 46, 47, 48, 49, 50] (by decide +kernel) (by decide +kernel)
set_option maxRecDepth 20000 in
theorem gX2_dispute_X0_freeze_n109 : GoodIn wsX2_dispute (wsX0_freeze) := ggX2_dispute_X0_freeze
theorem dX2_dispute_0 : decode cX2_dispute 0 = .ok (.iload_n 1, 1) := by decide +kernel
theorem dX2_dispute_1 : decode cX2_dispute 1 = .ok (.bipush 6, 2) := by decide +kernel
theorem dX2_dispute_3 : decode cX2_dispute 3 = .ok (.invokestatic 27, 3) := by decide +kernel
theorem dX2_dispute_6 : decode cX2_dispute 6 = .ok (.iload_n 2, 1) := by decide +kernel
theorem dX2_dispute_7 : decode cX2_dispute 7 = .ok (.bipush 16, 2) := by decide +kernel
theorem dX2_dispute_9 : decode cX2_dispute 9 = .ok (.invokestatic 27, 3) := by decide +kernel
theorem dX2_dispute_12 : decode cX2_dispute 12 = .ok (.aload_n 0, 1) := by decide +kernel
theorem dX2_dispute_13 : decode cX2_dispute 13 = .ok (.getfield 15, 3) := by decide +kernel
theorem dX2_dispute_16 : decode cX2_dispute 16 = .ok (.iload_n 2, 1) := by decide +kernel
theorem dX2_dispute_17 : decode cX2_dispute 17 = .ok (.aaload, 1) := by decide +kernel
theorem dX2_dispute_18 : decode cX2_dispute 18 = .ok (.astore_n 3, 1) := by decide +kernel
theorem dX2_dispute_19 : decode cX2_dispute 19 = .ok (.aload_n 3, 1) := by decide +kernel
theorem dX2_dispute_20 : decode cX2_dispute 20 = .ok (.getfield 36, 3) := by decide +kernel
theorem dX2_dispute_23 : decode cX2_dispute 23 = .ok (.istore 4, 2) := by decide +kernel
theorem dX2_dispute_25 : decode cX2_dispute 25 = .ok (.iload 4, 2) := by decide +kernel
theorem dX2_dispute_27 : decode cX2_dispute 27 = .ok (.iconst 1, 1) := by decide +kernel
theorem dX2_dispute_28 : decode cX2_dispute 28 = .ok (.if_icmp .eq 11, 3) := by decide +kernel
theorem dX2_dispute_31 : decode cX2_dispute 31 = .ok (.iload 4, 2) := by decide +kernel
theorem dX2_dispute_33 : decode cX2_dispute 33 = .ok (.invokestatic 70, 3) := by decide +kernel
theorem dX2_dispute_36 : decode cX2_dispute 36 = .ok (.ifCond .eq 15, 3) := by decide +kernel
theorem dX2_dispute_39 : decode cX2_dispute 39 = .ok (.aload_n 3, 1) := by decide +kernel
theorem dX2_dispute_40 : decode cX2_dispute 40 = .ok (.getfield 74, 3) := by decide +kernel
theorem dX2_dispute_43 : decode cX2_dispute 43 = .ok (.iload_n 1, 1) := by decide +kernel
theorem dX2_dispute_44 : decode cX2_dispute 44 = .ok (.if_icmp .eq 7, 3) := by decide +kernel
theorem dX2_dispute_47 : decode cX2_dispute 47 = .ok (.iconst 1, 1) := by decide +kernel
theorem dX2_dispute_48 : decode cX2_dispute 48 = .ok (.goto 4, 3) := by decide +kernel
theorem dX2_dispute_51 : decode cX2_dispute 51 = .ok (.iconst 0, 1) := by decide +kernel
theorem dX2_dispute_52 : decode cX2_dispute 52 = .ok (.invokestatic 40, 3) := by decide +kernel
theorem dX2_dispute_55 : decode cX2_dispute 55 = .ok (.aload_n 3, 1) := by decide +kernel
theorem dX2_dispute_56 : decode cX2_dispute 56 = .ok (.iload_n 1, 1) := by decide +kernel
theorem dX2_dispute_57 : decode cX2_dispute 57 = .ok (.aload_n 0, 1) := by decide +kernel
theorem dX2_dispute_58 : decode cX2_dispute 58 = .ok (.getfield 44, 3) := by decide +kernel
theorem dX2_dispute_61 : decode cX2_dispute 61 = .ok (.invokevirtual 109, 3) := by decide +kernel
theorem dX2_dispute_64 : decode cX2_dispute 64 = .ok (.iload 4, 2) := by decide +kernel
theorem dX2_dispute_66 : decode cX2_dispute 66 = .ok (.ireturn, 1) := by decide +kernel
set_option maxRecDepth 20000 in
theorem ggX2_decide_X2_checkIndex : GoodIn wsX2_decide wsX2_checkIndex := goodIn_ca (goodIn_r _ [6, 7, 8] (by decide +kernel) (by decide +kernel)) (goodIn_sub (fun _ h => List.mem_cons_of_mem _ (List.mem_append_left _ (List.mem_append_right _ h))) (by decide +kernel))
set_option maxRecDepth 20000 in
theorem gX2_decide_X2_checkIndex : GoodIn wsX2_decide (va_wsS RX2 27 yX2_checkIndex wsX2_checkIndex) := goodIn_app (goodIn_of _ (by decide +kernel)) ggX2_decide_X2_checkIndex
set_option maxRecDepth 20000 in
theorem ggX2_decide_X2_checkPossible : GoodIn wsX2_decide wsX2_checkPossible := goodIn_ca (goodIn_r _ [11, 12, 13] (by decide +kernel) (by decide +kernel)) (goodIn_sub (fun _ h => List.mem_cons_of_mem _ (List.mem_append_right _ h)) (by decide +kernel))
set_option maxRecDepth 20000 in
theorem gX2_decide_X2_checkPossible : GoodIn wsX2_decide (va_wsS RX2 40 yX2_checkPossible wsX2_checkPossible) := goodIn_app (goodIn_of _ (by decide +kernel)) ggX2_decide_X2_checkPossible
set_option maxRecDepth 20000 in
theorem ggX2_decide_X0_thaw : GoodIn wsX2_decide wsX0_thaw := goodIn_r _ [17, 18, 19, 20, 21, 22, 23, 24, 25, 26, 15, 27, 28, 29, 30, 31, 32, 33, 34, 35, 36, 37, 38, 39, 40, 41, 42, 49, 50, 51, 52, 53, 54, 55, 56, 57, 58, 59] (by decide +kernel) (by decide +kernel)
set_option maxRecDepth 20000 in
theorem gX2_decide_X0_thaw_n112 : GoodIn wsX2_decide (wsX0_thaw) := ggX2_decide_X0_thaw
theorem dX2_decide_0 : decode cX2_decide 0 = .ok (.iload_n 1, 1) := by decide +kernel
theorem dX2_decide_1 : decode cX2_decide 1 = .ok (.bipush 16, 2) := by decide +kernel
theorem dX2_decide_3 : decode cX2_decide 3 = .ok (.invokestatic 27, 3) := by decide +kernel
theorem dX2_decide_6 : decode cX2_decide 6 = .ok (.aload_n 0, 1) := by decide +kernel
theorem dX2_decide_7 : decode cX2_decide 7 = .ok (.getfield 15, 3) := by decide +kernel
theorem dX2_decide_10 : decode cX2_decide 10 = .ok (.iload_n 1, 1) := by decide +kernel
theorem dX2_decide_11 : decode cX2_decide 11 = .ok (.aaload, 1) := by decide +kernel
theorem dX2_decide_12 : decode cX2_decide 12 = .ok (.astore_n 3, 1) := by decide +kernel
theorem dX2_decide_13 : decode cX2_decide 13 = .ok (.aload_n 3, 1) := by decide +kernel
theorem dX2_decide_14 : decode cX2_decide 14 = .ok (.getfield 36, 3) := by decide +kernel
theorem dX2_decide_17 : decode cX2_decide 17 = .ok (.iconst 5, 1) := by decide +kernel
theorem dX2_decide_18 : decode cX2_decide 18 = .ok (.if_icmp .ne 7, 3) := by decide +kernel
theorem dX2_decide_21 : decode cX2_decide 21 = .ok (.iconst 1, 1) := by decide +kernel
theorem dX2_decide_22 : decode cX2_decide 22 = .ok (.goto 4, 3) := by decide +kernel
theorem dX2_decide_25 : decode cX2_decide 25 = .ok (.iconst 0, 1) := by decide +kernel
theorem dX2_decide_26 : decode cX2_decide 26 = .ok (.invokestatic 40, 3) := by decide +kernel
theorem dX2_decide_29 : decode cX2_decide 29 = .ok (.aload_n 3, 1) := by decide +kernel
theorem dX2_decide_30 : decode cX2_decide 30 = .ok (.iload_n 2, 1) := by decide +kernel
theorem dX2_decide_31 : decode cX2_decide 31 = .ok (.aload_n 0, 1) := by decide +kernel
theorem dX2_decide_32 : decode cX2_decide 32 = .ok (.getfield 44, 3) := by decide +kernel
theorem dX2_decide_35 : decode cX2_decide 35 = .ok (.invokevirtual 112, 3) := by decide +kernel
theorem dX2_decide_38 : decode cX2_decide 38 = .ok (.aload_n 3, 1) := by decide +kernel
theorem dX2_decide_39 : decode cX2_decide 39 = .ok (.getfield 36, 3) := by decide +kernel
theorem dX2_decide_42 : decode cX2_decide 42 = .ok (.ireturn, 1) := by decide +kernel
set_option maxRecDepth 20000 in
theorem ggX2_pass_X2_checkRange : GoodIn wsX2_pass wsX2_checkRange := goodIn_ca (goodIn_r _ [5, 6, 7] (by decide +kernel) (by decide +kernel)) (goodIn_sub (fun _ h => List.mem_cons_of_mem _ (List.mem_append_right _ h)) (by decide +kernel))
set_option maxRecDepth 20000 in
theorem gX2_pass_X2_checkRange : GoodIn wsX2_pass (va_wsS RX2 32 yX2_checkRange wsX2_checkRange) := goodIn_app (goodIn_of _ (by decide +kernel)) ggX2_pass_X2_checkRange
set_option maxRecDepth 20000 in
theorem ggX2_pass_X2_changeNames : GoodIn wsX2_pass wsX2_changeNames := goodIn_r _ [11, 12, 1, 13, 14, 15, 16, 17, 18, 19, 20, 21, 22, 23, 24, 25, 26, 27, 28, 29, 30, 31, 32, 33, 34, 35, 36, 37, 38, 39, 4, 40, 41, 42, 43, 44, 45, 46, 47, 48, 49, 50, 51, 52, 53, 54, 55, 56, 57, 58, 59, 60, 61, 62, 63, 64, 65, 66, 67, 68, 69, 70, 71, 72, 73, 74, 75, 76, 77, 78, 79, 80] (by decide +kernel) (by decide +kernel)
set_option maxRecDepth 20000 in
theorem gX2_pass_X2_changeNames : GoodIn wsX2_pass (wsV RX2 116 RX2 yX2_changeNames wsX2_changeNames) := goodIn_app (goodIn_of _ (by decide +kernel)) ggX2_pass_X2_changeNames
theorem dX2_pass_0 : decode cX2_pass 0 = .ok (.iload_n 1, 1) := by decide +kernel
theorem dX2_pass_1 : decode cX2_pass 1 = .ok (.iconst 1, 1) := by decide +kernel
theorem dX2_pass_2 : decode cX2_pass 2 = .ok (.sipush 200, 3) := by decide +kernel
theorem dX2_pass_5 : decode cX2_pass 5 = .ok (.invokestatic 32, 3) := by decide +kernel
theorem dX2_pass_8 : decode cX2_pass 8 = .ok (.iconst 0, 1) := by decide +kernel
theorem dX2_pass_9 : decode cX2_pass 9 = .ok (.istore_n 2, 1) := by decide +kernel
theorem dX2_pass_10 : decode cX2_pass 10 = .ok (.iconst 0, 1) := by decide +kernel
theorem dX2_pass_11 : decode cX2_pass 11 = .ok (.istore_n 3, 1) := by decide +kernel
theorem dX2_pass_12 : decode cX2_pass 12 = .ok (.iload_n 3, 1) := by decide +kernel
theorem dX2_pass_13 : decode cX2_pass 13 = .ok (.iload_n 1, 1) := by decide +kernel
theorem dX2_pass_14 : decode cX2_pass 14 = .ok (.if_icmp .ge 26, 3) := by decide +kernel
theorem dX2_pass_17 : decode cX2_pass 17 = .ok (.aload_n 0, 1) := by decide +kernel
theorem dX2_pass_18 : decode cX2_pass 18 = .ok (.dup, 1) := by decide +kernel
theorem dX2_pass_19 : decode cX2_pass 19 = .ok (.getfield 44, 3) := by decide +kernel
theorem dX2_pass_22 : decode cX2_pass 22 = .ok (.iconst 1, 1) := by decide +kernel
theorem dX2_pass_23 : decode cX2_pass 23 = .ok (.iadd, 1) := by decide +kernel
theorem dX2_pass_24 : decode cX2_pass 24 = .ok (.putfield 44, 3) := by decide +kernel
theorem dX2_pass_27 : decode cX2_pass 27 = .ok (.iload_n 2, 1) := by decide +kernel
theorem dX2_pass_28 : decode cX2_pass 28 = .ok (.aload_n 0, 1) := by decide +kernel
theorem dX2_pass_29 : decode cX2_pass 29 = .ok (.invokevirtual 116, 3) := by decide +kernel
theorem dX2_pass_32 : decode cX2_pass 32 = .ok (.iadd, 1) := by decide +kernel
theorem dX2_pass_33 : decode cX2_pass 33 = .ok (.istore_n 2, 1) := by decide +kernel
theorem dX2_pass_34 : decode cX2_pass 34 = .ok (.iinc 3 1, 3) := by decide +kernel
theorem dX2_pass_37 : decode cX2_pass 37 = .ok (.goto (-25), 3) := by decide +kernel
theorem dX2_pass_40 : decode cX2_pass 40 = .ok (.iload_n 2, 1) := by decide +kernel
theorem dX2_pass_41 : decode cX2_pass 41 = .ok (.ireturn, 1) := by decide +kernel
theorem dX2_today_0 : decode cX2_today 0 = .ok (.aload_n 0, 1) := by decide +kernel
theorem dX2_today_1 : decode cX2_today 1 = .ok (.getfield 44, 3) := by decide +kernel
theorem dX2_today_4 : decode cX2_today 4 = .ok (.ireturn, 1) := by decide +kernel
theorem dX2_takings_0 : decode cX2_takings 0 = .ok (.aload_n 0, 1) := by decide +kernel
theorem dX2_takings_1 : decode cX2_takings 1 = .ok (.getfield 119, 3) := by decide +kernel
theorem dX2_takings_4 : decode cX2_takings 4 = .ok (.ireturn, 1) := by decide +kernel
set_option maxRecDepth 20000 in
theorem ggX2_lookUp_X2_checkIndex : GoodIn wsX2_lookUp wsX2_checkIndex := goodIn_ca (goodIn_r _ [7, 8, 9] (by decide +kernel) (by decide +kernel)) (goodIn_sub (fun _ h => List.mem_cons_of_mem _ (List.mem_append_right _ h)) (by decide +kernel))
set_option maxRecDepth 20000 in
theorem gX2_lookUp_X2_checkIndex : GoodIn wsX2_lookUp (va_wsS RX2 27 yX2_checkIndex wsX2_checkIndex) := goodIn_app (goodIn_of _ (by decide +kernel)) ggX2_lookUp_X2_checkIndex
set_option maxRecDepth 20000 in
theorem ggX2_lookUp_X1_isFresh : GoodIn wsX2_lookUp wsX1_isFresh := goodIn_r _ [13, 14, 15, 16, 44, 45, 46, 47] (by decide +kernel) (by decide +kernel)
set_option maxRecDepth 20000 in
theorem gX2_lookUp_X1_isFresh_n122 : GoodIn wsX2_lookUp (wsX1_isFresh) := ggX2_lookUp_X1_isFresh
set_option maxRecDepth 20000 in
theorem ggX2_lookUp_X0_answer : GoodIn wsX2_lookUp wsX0_answer := goodIn_r _ [20, 21, 22, 23, 24, 18, 25, 26, 27, 28, 6, 29, 48, 49, 50, 51, 52, 53, 54, 55, 56, 57, 58] (by decide +kernel) (by decide +kernel)
set_option maxRecDepth 20000 in
theorem gX2_lookUp_X0_answer_n125 : GoodIn wsX2_lookUp (wsX0_answer) := ggX2_lookUp_X0_answer
set_option maxRecDepth 20000 in
theorem ggX2_lookUp_X0_answerLifetime : GoodIn wsX2_lookUp wsX0_answerLifetime := goodIn_r _ [32, 33, 22, 23, 24, 18, 25, 26, 27, 28, 6, 29, 48, 49, 50, 51, 52, 53, 54, 55, 56, 57, 58] (by decide +kernel) (by decide +kernel)
set_option maxRecDepth 20000 in
theorem gX2_lookUp_X0_answerLifetime_n128 : GoodIn wsX2_lookUp (wsX0_answerLifetime) := ggX2_lookUp_X0_answerLifetime
set_option maxRecDepth 20000 in
theorem ggX2_lookUp_X1_keep : GoodIn wsX2_lookUp wsX1_keep := goodIn_r _ [36, 14, 37, 16, 15, 44, 45, 46, 47] (by decide +kernel) (by decide +kernel)
set_option maxRecDepth 20000 in
theorem gX2_lookUp_X1_keep_n131 : GoodIn wsX2_lookUp (wsX1_keep) := ggX2_lookUp_X1_keep
theorem dX2_lookUp_0 : decode cX2_lookUp 0 = .ok (.iload_n 1, 1) := by decide +kernel
theorem dX2_lookUp_1 : decode cX2_lookUp 1 = .ok (.iconst 3, 1) := by decide +kernel
theorem dX2_lookUp_2 : decode cX2_lookUp 2 = .ok (.invokestatic 27, 3) := by decide +kernel
theorem dX2_lookUp_5 : decode cX2_lookUp 5 = .ok (.iload_n 2, 1) := by decide +kernel
theorem dX2_lookUp_6 : decode cX2_lookUp 6 = .ok (.bipush 16, 2) := by decide +kernel
theorem dX2_lookUp_8 : decode cX2_lookUp 8 = .ok (.invokestatic 27, 3) := by decide +kernel
theorem dX2_lookUp_11 : decode cX2_lookUp 11 = .ok (.aload_n 0, 1) := by decide +kernel
theorem dX2_lookUp_12 : decode cX2_lookUp 12 = .ok (.getfield 21, 3) := by decide +kernel
theorem dX2_lookUp_15 : decode cX2_lookUp 15 = .ok (.iload_n 1, 1) := by decide +kernel
theorem dX2_lookUp_16 : decode cX2_lookUp 16 = .ok (.aaload, 1) := by decide +kernel
theorem dX2_lookUp_17 : decode cX2_lookUp 17 = .ok (.astore_n 3, 1) := by decide +kernel
theorem dX2_lookUp_18 : decode cX2_lookUp 18 = .ok (.aload_n 3, 1) := by decide +kernel
theorem dX2_lookUp_19 : decode cX2_lookUp 19 = .ok (.iload_n 2, 1) := by decide +kernel
theorem dX2_lookUp_20 : decode cX2_lookUp 20 = .ok (.aload_n 0, 1) := by decide +kernel
theorem dX2_lookUp_21 : decode cX2_lookUp 21 = .ok (.getfield 44, 3) := by decide +kernel
theorem dX2_lookUp_24 : decode cX2_lookUp 24 = .ok (.invokevirtual 122, 3) := by decide +kernel
theorem dX2_lookUp_27 : decode cX2_lookUp 27 = .ok (.ifCond .ne 30, 3) := by decide +kernel
theorem dX2_lookUp_30 : decode cX2_lookUp 30 = .ok (.aload_n 3, 1) := by decide +kernel
theorem dX2_lookUp_31 : decode cX2_lookUp 31 = .ok (.iload_n 2, 1) := by decide +kernel
theorem dX2_lookUp_32 : decode cX2_lookUp 32 = .ok (.aload_n 0, 1) := by decide +kernel
theorem dX2_lookUp_33 : decode cX2_lookUp 33 = .ok (.getfield 15, 3) := by decide +kernel
theorem dX2_lookUp_36 : decode cX2_lookUp 36 = .ok (.iload_n 2, 1) := by decide +kernel
theorem dX2_lookUp_37 : decode cX2_lookUp 37 = .ok (.aaload, 1) := by decide +kernel
theorem dX2_lookUp_38 : decode cX2_lookUp 38 = .ok (.invokevirtual 125, 3) := by decide +kernel
theorem dX2_lookUp_41 : decode cX2_lookUp 41 = .ok (.aload_n 0, 1) := by decide +kernel
theorem dX2_lookUp_42 : decode cX2_lookUp 42 = .ok (.getfield 15, 3) := by decide +kernel
theorem dX2_lookUp_45 : decode cX2_lookUp 45 = .ok (.iload_n 2, 1) := by decide +kernel
theorem dX2_lookUp_46 : decode cX2_lookUp 46 = .ok (.aaload, 1) := by decide +kernel
theorem dX2_lookUp_47 : decode cX2_lookUp 47 = .ok (.invokevirtual 128, 3) := by decide +kernel
theorem dX2_lookUp_50 : decode cX2_lookUp 50 = .ok (.aload_n 0, 1) := by decide +kernel
theorem dX2_lookUp_51 : decode cX2_lookUp 51 = .ok (.getfield 44, 3) := by decide +kernel
theorem dX2_lookUp_54 : decode cX2_lookUp 54 = .ok (.invokevirtual 131, 3) := by decide +kernel
theorem dX2_lookUp_57 : decode cX2_lookUp 57 = .ok (.aload_n 3, 1) := by decide +kernel
theorem dX2_lookUp_58 : decode cX2_lookUp 58 = .ok (.getfield 135, 3) := by decide +kernel
theorem dX2_lookUp_61 : decode cX2_lookUp 61 = .ok (.iload_n 2, 1) := by decide +kernel
theorem dX2_lookUp_62 : decode cX2_lookUp 62 = .ok (.iaload, 1) := by decide +kernel
theorem dX2_lookUp_63 : decode cX2_lookUp 63 = .ok (.ireturn, 1) := by decide +kernel
set_option maxRecDepth 20000 in
theorem ggX2_isStale_X2_checkIndex : GoodIn wsX2_isStale wsX2_checkIndex := goodIn_ca (goodIn_r _ [7, 8, 9] (by decide +kernel) (by decide +kernel)) (goodIn_sub (fun _ h => List.mem_cons_of_mem _ (List.mem_append_right _ h)) (by decide +kernel))
set_option maxRecDepth 20000 in
theorem gX2_isStale_X2_checkIndex : GoodIn wsX2_isStale (va_wsS RX2 27 yX2_checkIndex wsX2_checkIndex) := goodIn_app (goodIn_of _ (by decide +kernel)) ggX2_isStale_X2_checkIndex
set_option maxRecDepth 20000 in
theorem ggX2_isStale_X1_isFresh : GoodIn wsX2_isStale wsX1_isFresh := goodIn_r _ [13, 14, 15, 16, 36, 37, 38, 39] (by decide +kernel) (by decide +kernel)
set_option maxRecDepth 20000 in
theorem gX2_isStale_X1_isFresh_n122 : GoodIn wsX2_isStale (wsX1_isFresh) := ggX2_isStale_X1_isFresh
set_option maxRecDepth 20000 in
theorem ggX2_isStale_X0_answer : GoodIn wsX2_isStale wsX0_answer := goodIn_r _ [20, 21, 22, 23, 24, 18, 25, 26, 27, 28, 6, 29, 40, 41, 42, 43, 44, 45, 46, 47, 48, 49, 50] (by decide +kernel) (by decide +kernel)
set_option maxRecDepth 20000 in
theorem gX2_isStale_X0_answer_n125 : GoodIn wsX2_isStale (wsX0_answer) := ggX2_isStale_X0_answer
theorem dX2_isStale_0 : decode cX2_isStale 0 = .ok (.iload_n 1, 1) := by decide +kernel
theorem dX2_isStale_1 : decode cX2_isStale 1 = .ok (.iconst 3, 1) := by decide +kernel
theorem dX2_isStale_2 : decode cX2_isStale 2 = .ok (.invokestatic 27, 3) := by decide +kernel
theorem dX2_isStale_5 : decode cX2_isStale 5 = .ok (.iload_n 2, 1) := by decide +kernel
theorem dX2_isStale_6 : decode cX2_isStale 6 = .ok (.bipush 16, 2) := by decide +kernel
theorem dX2_isStale_8 : decode cX2_isStale 8 = .ok (.invokestatic 27, 3) := by decide +kernel
theorem dX2_isStale_11 : decode cX2_isStale 11 = .ok (.aload_n 0, 1) := by decide +kernel
theorem dX2_isStale_12 : decode cX2_isStale 12 = .ok (.getfield 21, 3) := by decide +kernel
theorem dX2_isStale_15 : decode cX2_isStale 15 = .ok (.iload_n 1, 1) := by decide +kernel
theorem dX2_isStale_16 : decode cX2_isStale 16 = .ok (.aaload, 1) := by decide +kernel
theorem dX2_isStale_17 : decode cX2_isStale 17 = .ok (.astore_n 3, 1) := by decide +kernel
theorem dX2_isStale_18 : decode cX2_isStale 18 = .ok (.aload_n 3, 1) := by decide +kernel
theorem dX2_isStale_19 : decode cX2_isStale 19 = .ok (.iload_n 2, 1) := by decide +kernel
theorem dX2_isStale_20 : decode cX2_isStale 20 = .ok (.aload_n 0, 1) := by decide +kernel
theorem dX2_isStale_21 : decode cX2_isStale 21 = .ok (.getfield 44, 3) := by decide +kernel
theorem dX2_isStale_24 : decode cX2_isStale 24 = .ok (.invokevirtual 122, 3) := by decide +kernel
theorem dX2_isStale_27 : decode cX2_isStale 27 = .ok (.ifCond .eq 25, 3) := by decide +kernel
theorem dX2_isStale_30 : decode cX2_isStale 30 = .ok (.aload_n 3, 1) := by decide +kernel
theorem dX2_isStale_31 : decode cX2_isStale 31 = .ok (.getfield 135, 3) := by decide +kernel
theorem dX2_isStale_34 : decode cX2_isStale 34 = .ok (.iload_n 2, 1) := by decide +kernel
theorem dX2_isStale_35 : decode cX2_isStale 35 = .ok (.iaload, 1) := by decide +kernel
theorem dX2_isStale_36 : decode cX2_isStale 36 = .ok (.aload_n 0, 1) := by decide +kernel
theorem dX2_isStale_37 : decode cX2_isStale 37 = .ok (.getfield 15, 3) := by decide +kernel
theorem dX2_isStale_40 : decode cX2_isStale 40 = .ok (.iload_n 2, 1) := by decide +kernel
theorem dX2_isStale_41 : decode cX2_isStale 41 = .ok (.aaload, 1) := by decide +kernel
theorem dX2_isStale_42 : decode cX2_isStale 42 = .ok (.invokevirtual 125, 3) := by decide +kernel
theorem dX2_isStale_45 : decode cX2_isStale 45 = .ok (.if_icmp .eq 7, 3) := by decide +kernel
theorem dX2_isStale_48 : decode cX2_isStale 48 = .ok (.iconst 1, 1) := by decide +kernel
theorem dX2_isStale_49 : decode cX2_isStale 49 = .ok (.goto 4, 3) := by decide +kernel
theorem dX2_isStale_52 : decode cX2_isStale 52 = .ok (.iconst 0, 1) := by decide +kernel
theorem dX2_isStale_53 : decode cX2_isStale 53 = .ok (.ireturn, 1) := by decide +kernel
set_option maxRecDepth 20000 in
theorem ggX2_flush_X2_checkIndex : GoodIn wsX2_flush wsX2_checkIndex := goodIn_ca (goodIn_r _ [5, 6, 7] (by decide +kernel) (by decide +kernel)) (goodIn_sub (fun _ h => List.mem_cons_of_mem _ (List.mem_append_right _ h)) (by decide +kernel))
set_option maxRecDepth 20000 in
theorem gX2_flush_X2_checkIndex : GoodIn wsX2_flush (va_wsS RX2 27 yX2_checkIndex wsX2_checkIndex) := goodIn_app (goodIn_of _ (by decide +kernel)) ggX2_flush_X2_checkIndex
set_option maxRecDepth 20000 in
theorem ggX2_flush_X1_forgetAll : GoodIn wsX2_flush wsX1_forgetAll := goodIn_r _ [11, 12, 19, 20, 21, 22] (by decide +kernel) (by decide +kernel)
set_option maxRecDepth 20000 in
theorem gX2_flush_X1_forgetAll_n138 : GoodIn wsX2_flush (wsX1_forgetAll) := ggX2_flush_X1_forgetAll
theorem dX2_flush_0 : decode cX2_flush 0 = .ok (.iload_n 1, 1) := by decide +kernel
theorem dX2_flush_1 : decode cX2_flush 1 = .ok (.iconst 3, 1) := by decide +kernel
theorem dX2_flush_2 : decode cX2_flush 2 = .ok (.invokestatic 27, 3) := by decide +kernel
theorem dX2_flush_5 : decode cX2_flush 5 = .ok (.aload_n 0, 1) := by decide +kernel
theorem dX2_flush_6 : decode cX2_flush 6 = .ok (.getfield 21, 3) := by decide +kernel
theorem dX2_flush_9 : decode cX2_flush 9 = .ok (.iload_n 1, 1) := by decide +kernel
theorem dX2_flush_10 : decode cX2_flush 10 = .ok (.aaload, 1) := by decide +kernel
theorem dX2_flush_11 : decode cX2_flush 11 = .ok (.invokevirtual 138, 3) := by decide +kernel
theorem dX2_flush_14 : decode cX2_flush 14 = .ok (.ireturn, 1) := by decide +kernel
theorem dX2_checkIndex_0 : decode cX2_checkIndex 0 = .ok (.iload_n 0, 1) := by decide +kernel
theorem dX2_checkIndex_1 : decode cX2_checkIndex 1 = .ok (.ifCond .lt 8, 3) := by decide +kernel
theorem dX2_checkIndex_4 : decode cX2_checkIndex 4 = .ok (.iload_n 0, 1) := by decide +kernel
theorem dX2_checkIndex_5 : decode cX2_checkIndex 5 = .ok (.iload_n 1, 1) := by decide +kernel
theorem dX2_checkIndex_6 : decode cX2_checkIndex 6 = .ok (.if_icmp .lt 11, 3) := by decide +kernel
theorem dX2_checkIndex_9 : decode cX2_checkIndex 9 = .ok (.new 141, 3) := by decide +kernel
theorem dX2_checkIndex_12 : decode cX2_checkIndex 12 = .ok (.dup, 1) := by decide +kernel
theorem dX2_checkIndex_13 : decode cX2_checkIndex 13 = .ok (.invokespecial 143, 3) := by decide +kernel
theorem dX2_checkIndex_16 : decode cX2_checkIndex 16 = .ok (.athrow, 1) := by decide +kernel
theorem dX2_checkIndex_17 : decode cX2_checkIndex 17 = .ok (.return_, 1) := by decide +kernel
theorem dX2_checkRange_0 : decode cX2_checkRange 0 = .ok (.iload_n 0, 1) := by decide +kernel
theorem dX2_checkRange_1 : decode cX2_checkRange 1 = .ok (.iload_n 1, 1) := by decide +kernel
theorem dX2_checkRange_2 : decode cX2_checkRange 2 = .ok (.if_icmp .lt 8, 3) := by decide +kernel
theorem dX2_checkRange_5 : decode cX2_checkRange 5 = .ok (.iload_n 0, 1) := by decide +kernel
theorem dX2_checkRange_6 : decode cX2_checkRange 6 = .ok (.iload_n 2, 1) := by decide +kernel
theorem dX2_checkRange_7 : decode cX2_checkRange 7 = .ok (.if_icmp .le 11, 3) := by decide +kernel
theorem dX2_checkRange_10 : decode cX2_checkRange 10 = .ok (.new 144, 3) := by decide +kernel
theorem dX2_checkRange_13 : decode cX2_checkRange 13 = .ok (.dup, 1) := by decide +kernel
theorem dX2_checkRange_14 : decode cX2_checkRange 14 = .ok (.invokespecial 146, 3) := by decide +kernel
theorem dX2_checkRange_17 : decode cX2_checkRange 17 = .ok (.athrow, 1) := by decide +kernel
theorem dX2_checkRange_18 : decode cX2_checkRange 18 = .ok (.return_, 1) := by decide +kernel
theorem dX2_checkPossible_0 : decode cX2_checkPossible 0 = .ok (.iload_n 0, 1) := by decide +kernel
theorem dX2_checkPossible_1 : decode cX2_checkPossible 1 = .ok (.ifCond .ne 11, 3) := by decide +kernel
theorem dX2_checkPossible_4 : decode cX2_checkPossible 4 = .ok (.new 147, 3) := by decide +kernel
theorem dX2_checkPossible_7 : decode cX2_checkPossible 7 = .ok (.dup, 1) := by decide +kernel
theorem dX2_checkPossible_8 : decode cX2_checkPossible 8 = .ok (.invokespecial 149, 3) := by decide +kernel
theorem dX2_checkPossible_11 : decode cX2_checkPossible 11 = .ok (.athrow, 1) := by decide +kernel
theorem dX2_checkPossible_12 : decode cX2_checkPossible 12 = .ok (.return_, 1) := by decide +kernel
theorem dX2_isHeld_0 : decode cX2_isHeld 0 = .ok (.iload_n 0, 1) := by decide +kernel
theorem dX2_isHeld_1 : decode cX2_isHeld 1 = .ok (.iconst 2, 1) := by decide +kernel
theorem dX2_isHeld_2 : decode cX2_isHeld 2 = .ok (.if_icmp .eq 8, 3) := by decide +kernel
theorem dX2_isHeld_5 : decode cX2_isHeld 5 = .ok (.iload_n 0, 1) := by decide +kernel
theorem dX2_isHeld_6 : decode cX2_isHeld 6 = .ok (.iconst 3, 1) := by decide +kernel
theorem dX2_isHeld_7 : decode cX2_isHeld 7 = .ok (.if_icmp .ne 7, 3) := by decide +kernel
theorem dX2_isHeld_10 : decode cX2_isHeld 10 = .ok (.iconst 1, 1) := by decide +kernel
theorem dX2_isHeld_11 : decode cX2_isHeld 11 = .ok (.goto 4, 3) := by decide +kernel
theorem dX2_isHeld_14 : decode cX2_isHeld 14 = .ok (.iconst 0, 1) := by decide +kernel
theorem dX2_isHeld_15 : decode cX2_isHeld 15 = .ok (.ireturn, 1) := by decide +kernel
theorem dX2_wordOf_0 : decode cX2_wordOf 0 = .ok (.iload_n 0, 1) := by decide +kernel
theorem dX2_wordOf_1 : decode cX2_wordOf 1 = .ok (.tableswitch 50 1 5 #[35, 38, 41, 44, 47], 35) := by decide +kernel
theorem dX2_wordOf_36 : decode cX2_wordOf 36 = .ok (.ldc 150, 2) := by decide +kernel
theorem dX2_wordOf_38 : decode cX2_wordOf 38 = .ok (.areturn, 1) := by decide +kernel
theorem dX2_wordOf_39 : decode cX2_wordOf 39 = .ok (.ldc 152, 2) := by decide +kernel
theorem dX2_wordOf_41 : decode cX2_wordOf 41 = .ok (.areturn, 1) := by decide +kernel
theorem dX2_wordOf_42 : decode cX2_wordOf 42 = .ok (.ldc 154, 2) := by decide +kernel
theorem dX2_wordOf_44 : decode cX2_wordOf 44 = .ok (.areturn, 1) := by decide +kernel
theorem dX2_wordOf_45 : decode cX2_wordOf 45 = .ok (.ldc 156, 2) := by decide +kernel
theorem dX2_wordOf_47 : decode cX2_wordOf 47 = .ok (.areturn, 1) := by decide +kernel
theorem dX2_wordOf_48 : decode cX2_wordOf 48 = .ok (.ldc 158, 2) := by decide +kernel
theorem dX2_wordOf_50 : decode cX2_wordOf 50 = .ok (.areturn, 1) := by decide +kernel
theorem dX2_wordOf_51 : decode cX2_wordOf 51 = .ok (.ldc 160, 2) := by decide +kernel
theorem dX2_wordOf_53 : decode cX2_wordOf 53 = .ok (.areturn, 1) := by decide +kernel
theorem dX2_canPay_0 : decode cX2_canPay 0 = .ok (.iload_n 1, 1) := by decide +kernel
theorem dX2_canPay_1 : decode cX2_canPay 1 = .ok (.ifCond .lt 23, 3) := by decide +kernel
theorem dX2_canPay_4 : decode cX2_canPay 4 = .ok (.iload_n 1, 1) := by decide +kernel
theorem dX2_canPay_5 : decode cX2_canPay 5 = .ok (.bipush 6, 2) := by decide +kernel
theorem dX2_canPay_7 : decode cX2_canPay 7 = .ok (.if_icmp .ge 17, 3) := by decide +kernel
theorem dX2_canPay_10 : decode cX2_canPay 10 = .ok (.aload_n 0, 1) := by decide +kernel
theorem dX2_canPay_11 : decode cX2_canPay 11 = .ok (.getfield 9, 3) := by decide +kernel
theorem dX2_canPay_14 : decode cX2_canPay 14 = .ok (.iload_n 1, 1) := by decide +kernel
theorem dX2_canPay_15 : decode cX2_canPay 15 = .ok (.iaload, 1) := by decide +kernel
theorem dX2_canPay_16 : decode cX2_canPay 16 = .ok (.iload_n 2, 1) := by decide +kernel
theorem dX2_canPay_17 : decode cX2_canPay 17 = .ok (.if_icmp .lt 7, 3) := by decide +kernel
theorem dX2_canPay_20 : decode cX2_canPay 20 = .ok (.iconst 1, 1) := by decide +kernel
theorem dX2_canPay_21 : decode cX2_canPay 21 = .ok (.goto 4, 3) := by decide +kernel
theorem dX2_canPay_24 : decode cX2_canPay 24 = .ok (.iconst 0, 1) := by decide +kernel
theorem dX2_canPay_25 : decode cX2_canPay 25 = .ok (.ireturn, 1) := by decide +kernel
set_option maxRecDepth 20000 in
theorem ggX2_pay_X2_canPay : GoodIn wsX2_pay wsX2_canPay := goodIn_r _ [7, 1, 8, 9, 10, 11, 12, 13] (by decide +kernel) (by decide +kernel)
set_option maxRecDepth 20000 in
theorem gX2_pay_X2_canPay : GoodIn wsX2_pay (wsV RX2 77 RX2 yX2_canPay wsX2_canPay) := goodIn_app (goodIn_of _ (by decide +kernel)) ggX2_pay_X2_canPay
theorem dX2_pay_0 : decode cX2_pay 0 = .ok (.aload_n 0, 1) := by decide +kernel
theorem dX2_pay_1 : decode cX2_pay 1 = .ok (.iload_n 1, 1) := by decide +kernel
theorem dX2_pay_2 : decode cX2_pay 2 = .ok (.iload_n 2, 1) := by decide +kernel
theorem dX2_pay_3 : decode cX2_pay 3 = .ok (.invokevirtual 77, 3) := by decide +kernel
theorem dX2_pay_6 : decode cX2_pay 6 = .ok (.ifCond .eq 23, 3) := by decide +kernel
theorem dX2_pay_9 : decode cX2_pay 9 = .ok (.aload_n 0, 1) := by decide +kernel
theorem dX2_pay_10 : decode cX2_pay 10 = .ok (.getfield 9, 3) := by decide +kernel
theorem dX2_pay_13 : decode cX2_pay 13 = .ok (.iload_n 1, 1) := by decide +kernel
theorem dX2_pay_14 : decode cX2_pay 14 = .ok (.dup2, 1) := by decide +kernel
theorem dX2_pay_15 : decode cX2_pay 15 = .ok (.iaload, 1) := by decide +kernel
theorem dX2_pay_16 : decode cX2_pay 16 = .ok (.iload_n 2, 1) := by decide +kernel
theorem dX2_pay_17 : decode cX2_pay 17 = .ok (.isub, 1) := by decide +kernel
theorem dX2_pay_18 : decode cX2_pay 18 = .ok (.iastore, 1) := by decide +kernel
theorem dX2_pay_19 : decode cX2_pay 19 = .ok (.aload_n 0, 1) := by decide +kernel
theorem dX2_pay_20 : decode cX2_pay 20 = .ok (.dup, 1) := by decide +kernel
theorem dX2_pay_21 : decode cX2_pay 21 = .ok (.getfield 119, 3) := by decide +kernel
theorem dX2_pay_24 : decode cX2_pay 24 = .ok (.iload_n 2, 1) := by decide +kernel
theorem dX2_pay_25 : decode cX2_pay 25 = .ok (.iadd, 1) := by decide +kernel
theorem dX2_pay_26 : decode cX2_pay 26 = .ok (.putfield 119, 3) := by decide +kernel
theorem dX2_pay_29 : decode cX2_pay 29 = .ok (.return_, 1) := by decide +kernel
set_option maxRecDepth 20000 in
theorem ggX2_changeNames_X0_dayOfChange : GoodIn wsX2_changeNames wsX0_dayOfChange := goodIn_r _ [6, 7, 8, 9, 61, 62, 63, 64, 65, 66, 67, 68, 69, 70, 71] (by decide +kernel) (by decide +kernel)
set_option maxRecDepth 20000 in
theorem gX2_changeNames_X0_dayOfChange_n106 : GoodIn wsX2_changeNames (wsX0_dayOfChange) := ggX2_changeNames_X0_dayOfChange
set_option maxRecDepth 20000 in
theorem ggX2_changeNames_X0_goOn : GoodIn wsX2_changeNames wsX0_goOn := goodIn_r _ [12, 7, 13, 14, 15, 4, 16, 17, 18, 19, 20, 21, 22, 23, 24, 25, 26, 61, 62, 63, 64, 65, 66, 67, 68, 69, 70, 71] (by decide +kernel) (by decide +kernel)
set_option maxRecDepth 20000 in
theorem gX2_changeNames_X0_goOn_n162 : GoodIn wsX2_changeNames (wsX0_goOn) := ggX2_changeNames_X0_goOn
set_option maxRecDepth 20000 in
theorem ggX2_changeNames_X2_closeAuction : GoodIn wsX2_changeNames wsX2_closeAuction := goodIn_r _ [31, 2, 32, 33, 34, 30, 35, 36, 37, 38, 39, 40, 41, 4, 42, 43, 22, 44, 14, 15, 16, 7, 17, 18, 19, 20, 21, 23, 24, 25, 26, 45, 46, 47, 48, 49, 50, 51, 52, 9, 53, 54, 61, 62, 63, 64, 65, 66, 67, 68, 69, 70, 71, 55, 56, 57, 58, 59, 60] (by decide +kernel) (by decide +kernel)
set_option maxRecDepth 20000 in
theorem gX2_changeNames_X2_closeAuction : GoodIn wsX2_changeNames (wsV RX2 165 RX2 yX2_closeAuction wsX2_closeAuction) := goodIn_app (goodIn_of _ (by decide +kernel)) ggX2_changeNames_X2_closeAuction
theorem dX2_changeNames_0 : decode cX2_changeNames 0 = .ok (.iconst 0, 1) := by decide +kernel
theorem dX2_changeNames_1 : decode cX2_changeNames 1 = .ok (.istore_n 1, 1) := by decide +kernel
theorem dX2_changeNames_2 : decode cX2_changeNames 2 = .ok (.iconst 0, 1) := by decide +kernel
theorem dX2_changeNames_3 : decode cX2_changeNames 3 = .ok (.istore_n 2, 1) := by decide +kernel
theorem dX2_changeNames_4 : decode cX2_changeNames 4 = .ok (.iload_n 2, 1) := by decide +kernel
theorem dX2_changeNames_5 : decode cX2_changeNames 5 = .ok (.bipush 16, 2) := by decide +kernel
theorem dX2_changeNames_7 : decode cX2_changeNames 7 = .ok (.if_icmp .ge 56, 3) := by decide +kernel
theorem dX2_changeNames_10 : decode cX2_changeNames 10 = .ok (.aload_n 0, 1) := by decide +kernel
theorem dX2_changeNames_11 : decode cX2_changeNames 11 = .ok (.getfield 15, 3) := by decide +kernel
theorem dX2_changeNames_14 : decode cX2_changeNames 14 = .ok (.iload_n 2, 1) := by decide +kernel
theorem dX2_changeNames_15 : decode cX2_changeNames 15 = .ok (.aaload, 1) := by decide +kernel
theorem dX2_changeNames_16 : decode cX2_changeNames 16 = .ok (.astore_n 3, 1) := by decide +kernel
theorem dX2_changeNames_17 : decode cX2_changeNames 17 = .ok (.aload_n 3, 1) := by decide +kernel
theorem dX2_changeNames_18 : decode cX2_changeNames 18 = .ok (.invokevirtual 106, 3) := by decide +kernel
theorem dX2_changeNames_21 : decode cX2_changeNames 21 = .ok (.aload_n 0, 1) := by decide +kernel
theorem dX2_changeNames_22 : decode cX2_changeNames 22 = .ok (.getfield 44, 3) := by decide +kernel
theorem dX2_changeNames_25 : decode cX2_changeNames 25 = .ok (.if_icmp .eq 6, 3) := by decide +kernel
theorem dX2_changeNames_28 : decode cX2_changeNames 28 = .ok (.goto 29, 3) := by decide +kernel
theorem dX2_changeNames_31 : decode cX2_changeNames 31 = .ok (.aload_n 3, 1) := by decide +kernel
theorem dX2_changeNames_32 : decode cX2_changeNames 32 = .ok (.getfield 36, 3) := by decide +kernel
theorem dX2_changeNames_35 : decode cX2_changeNames 35 = .ok (.iconst 1, 1) := by decide +kernel
theorem dX2_changeNames_36 : decode cX2_changeNames 36 = .ok (.if_icmp .eq 10, 3) := by decide +kernel
theorem dX2_changeNames_39 : decode cX2_changeNames 39 = .ok (.aload_n 3, 1) := by decide +kernel
theorem dX2_changeNames_40 : decode cX2_changeNames 40 = .ok (.invokevirtual 162, 3) := by decide +kernel
theorem dX2_changeNames_43 : decode cX2_changeNames 43 = .ok (.goto 14, 3) := by decide +kernel
theorem dX2_changeNames_46 : decode cX2_changeNames 46 = .ok (.aload_n 0, 1) := by decide +kernel
theorem dX2_changeNames_47 : decode cX2_changeNames 47 = .ok (.aload_n 3, 1) := by decide +kernel
theorem dX2_changeNames_48 : decode cX2_changeNames 48 = .ok (.invokevirtual 165, 3) := by decide +kernel
theorem dX2_changeNames_51 : decode cX2_changeNames 51 = .ok (.ifCond .eq 6, 3) := by decide +kernel
theorem dX2_changeNames_54 : decode cX2_changeNames 54 = .ok (.iinc 1 1, 3) := by decide +kernel
theorem dX2_changeNames_57 : decode cX2_changeNames 57 = .ok (.iinc 2 1, 3) := by decide +kernel
theorem dX2_changeNames_60 : decode cX2_changeNames 60 = .ok (.goto (-56), 3) := by decide +kernel
theorem dX2_changeNames_63 : decode cX2_changeNames 63 = .ok (.iload_n 1, 1) := by decide +kernel
theorem dX2_changeNames_64 : decode cX2_changeNames 64 = .ok (.ireturn, 1) := by decide +kernel
set_option maxRecDepth 20000 in
theorem ggX2_closeAuction_X2_bestBidder : GoodIn wsX2_closeAuction wsX2_bestBidder := goodIn_r _ [6, 7, 8, 9, 5, 10, 11, 12, 13, 14, 15, 16, 17, 42, 43, 44, 45, 46, 47, 48, 49, 50, 51, 52, 53, 54, 55, 56, 57, 58] (by decide +kernel) (by decide +kernel)
set_option maxRecDepth 20000 in
theorem gX2_closeAuction_X2_bestBidder : GoodIn wsX2_closeAuction (wsV RX2 169 RX2 yX2_bestBidder wsX2_bestBidder) := goodIn_app (goodIn_of _ (by decide +kernel)) ggX2_closeAuction_X2_bestBidder
set_option maxRecDepth 20000 in
theorem ggX2_closeAuction_X0_release : GoodIn wsX2_closeAuction wsX0_release := goodIn_r _ [20, 21, 22, 23, 24, 25, 13, 26, 16, 27, 28, 29, 30, 42, 43, 44, 45, 46, 47, 48, 49, 50, 51, 52] (by decide +kernel) (by decide +kernel)
set_option maxRecDepth 20000 in
theorem gX2_closeAuction_X0_release_n173 : GoodIn wsX2_closeAuction (wsX0_release) := ggX2_closeAuction_X0_release
set_option maxRecDepth 20000 in
theorem ggX2_closeAuction_X2_pay : GoodIn wsX2_closeAuction wsX2_pay := goodIn_r _ [34, 11, 35, 7, 8, 9, 5, 10, 53, 54, 55, 56, 57, 58] (by decide +kernel) (by decide +kernel)
set_option maxRecDepth 20000 in
theorem gX2_closeAuction_X2_pay : GoodIn wsX2_closeAuction (wsV RX2 81 RX2 yX2_pay wsX2_pay) := goodIn_app (goodIn_of _ (by decide +kernel)) ggX2_closeAuction_X2_pay
set_option maxRecDepth 20000 in
theorem ggX2_closeAuction_X0_leaseTo : GoodIn wsX2_closeAuction wsX0_leaseTo := goodIn_r _ [38, 21, 22, 39, 40, 41, 23, 24, 25, 13, 26, 16, 27, 28, 29, 30, 42, 43, 44, 45, 46, 47, 48, 49, 50, 51, 52] (by decide +kernel) (by decide +kernel)
set_option maxRecDepth 20000 in
theorem gX2_closeAuction_X0_leaseTo_n84 : GoodIn wsX2_closeAuction (wsX0_leaseTo) := ggX2_closeAuction_X0_leaseTo
theorem dX2_closeAuction_0 : decode cX2_closeAuction 0 = .ok (.aload_n 0, 1) := by decide +kernel
theorem dX2_closeAuction_1 : decode cX2_closeAuction 1 = .ok (.aload_n 1, 1) := by decide +kernel
theorem dX2_closeAuction_2 : decode cX2_closeAuction 2 = .ok (.iconst (-1), 1) := by decide +kernel
theorem dX2_closeAuction_3 : decode cX2_closeAuction 3 = .ok (.invokevirtual 169, 3) := by decide +kernel
theorem dX2_closeAuction_6 : decode cX2_closeAuction 6 = .ok (.istore_n 2, 1) := by decide +kernel
theorem dX2_closeAuction_7 : decode cX2_closeAuction 7 = .ok (.iload_n 2, 1) := by decide +kernel
theorem dX2_closeAuction_8 : decode cX2_closeAuction 8 = .ok (.iconst (-1), 1) := by decide +kernel
theorem dX2_closeAuction_9 : decode cX2_closeAuction 9 = .ok (.if_icmp .ne 9, 3) := by decide +kernel
theorem dX2_closeAuction_12 : decode cX2_closeAuction 12 = .ok (.aload_n 1, 1) := by decide +kernel
theorem dX2_closeAuction_13 : decode cX2_closeAuction 13 = .ok (.invokevirtual 173, 3) := by decide +kernel
theorem dX2_closeAuction_16 : decode cX2_closeAuction 16 = .ok (.iconst 0, 1) := by decide +kernel
theorem dX2_closeAuction_17 : decode cX2_closeAuction 17 = .ok (.ireturn, 1) := by decide +kernel
theorem dX2_closeAuction_18 : decode cX2_closeAuction 18 = .ok (.aload_n 0, 1) := by decide +kernel
theorem dX2_closeAuction_19 : decode cX2_closeAuction 19 = .ok (.aload_n 1, 1) := by decide +kernel
theorem dX2_closeAuction_20 : decode cX2_closeAuction 20 = .ok (.iload_n 2, 1) := by decide +kernel
theorem dX2_closeAuction_21 : decode cX2_closeAuction 21 = .ok (.invokevirtual 169, 3) := by decide +kernel
theorem dX2_closeAuction_24 : decode cX2_closeAuction 24 = .ok (.istore_n 3, 1) := by decide +kernel
theorem dX2_closeAuction_25 : decode cX2_closeAuction 25 = .ok (.aload_n 0, 1) := by decide +kernel
theorem dX2_closeAuction_26 : decode cX2_closeAuction 26 = .ok (.iload_n 2, 1) := by decide +kernel
theorem dX2_closeAuction_27 : decode cX2_closeAuction 27 = .ok (.iload_n 3, 1) := by decide +kernel
theorem dX2_closeAuction_28 : decode cX2_closeAuction 28 = .ok (.iconst (-1), 1) := by decide +kernel
theorem dX2_closeAuction_29 : decode cX2_closeAuction 29 = .ok (.if_icmp .ne 8, 3) := by decide +kernel
theorem dX2_closeAuction_32 : decode cX2_closeAuction 32 = .ok (.bipush 10, 2) := by decide +kernel
theorem dX2_closeAuction_34 : decode cX2_closeAuction 34 = .ok (.goto 9, 3) := by decide +kernel
theorem dX2_closeAuction_37 : decode cX2_closeAuction 37 = .ok (.aload_n 1, 1) := by decide +kernel
theorem dX2_closeAuction_38 : decode cX2_closeAuction 38 = .ok (.getfield 54, 3) := by decide +kernel
theorem dX2_closeAuction_41 : decode cX2_closeAuction 41 = .ok (.iload_n 3, 1) := by decide +kernel
theorem dX2_closeAuction_42 : decode cX2_closeAuction 42 = .ok (.iaload, 1) := by decide +kernel
theorem dX2_closeAuction_43 : decode cX2_closeAuction 43 = .ok (.invokevirtual 81, 3) := by decide +kernel
theorem dX2_closeAuction_46 : decode cX2_closeAuction 46 = .ok (.aload_n 1, 1) := by decide +kernel
theorem dX2_closeAuction_47 : decode cX2_closeAuction 47 = .ok (.iload_n 2, 1) := by decide +kernel
theorem dX2_closeAuction_48 : decode cX2_closeAuction 48 = .ok (.aload_n 0, 1) := by decide +kernel
theorem dX2_closeAuction_49 : decode cX2_closeAuction 49 = .ok (.getfield 44, 3) := by decide +kernel
theorem dX2_closeAuction_52 : decode cX2_closeAuction 52 = .ok (.invokevirtual 84, 3) := by decide +kernel
theorem dX2_closeAuction_55 : decode cX2_closeAuction 55 = .ok (.iconst 1, 1) := by decide +kernel
theorem dX2_closeAuction_56 : decode cX2_closeAuction 56 = .ok (.ireturn, 1) := by decide +kernel
set_option maxRecDepth 20000 in
theorem ggX2_bestBidder_X2_canPay : GoodIn wsX2_bestBidder wsX2_canPay := goodIn_r _ [5, 6, 24, 25, 26, 27, 28, 29] (by decide +kernel) (by decide +kernel)
set_option maxRecDepth 20000 in
theorem gX2_bestBidder_X2_canPay : GoodIn wsX2_bestBidder (wsV RX2 77 RX2 yX2_canPay wsX2_canPay) := goodIn_app (goodIn_of _ (by decide +kernel)) ggX2_bestBidder_X2_canPay
set_option maxRecDepth 20000 in
theorem ggX2_bestBidder_X0_isAhead : GoodIn wsX2_bestBidder wsX0_isAhead := goodIn_r _ [10, 11, 12, 13, 14, 15, 16, 17, 18, 19, 20, 21, 22, 23] (by decide +kernel) (by decide +kernel)
set_option maxRecDepth 20000 in
theorem gX2_bestBidder_X0_isAhead_n176 : GoodIn wsX2_bestBidder (wsX0_isAhead) := ggX2_bestBidder_X0_isAhead
theorem dX2_bestBidder_0 : decode cX2_bestBidder 0 = .ok (.iconst (-1), 1) := by decide +kernel
theorem dX2_bestBidder_1 : decode cX2_bestBidder 1 = .ok (.istore_n 3, 1) := by decide +kernel
theorem dX2_bestBidder_2 : decode cX2_bestBidder 2 = .ok (.iconst 0, 1) := by decide +kernel
theorem dX2_bestBidder_3 : decode cX2_bestBidder 3 = .ok (.istore 4, 2) := by decide +kernel
theorem dX2_bestBidder_5 : decode cX2_bestBidder 5 = .ok (.iload 4, 2) := by decide +kernel
theorem dX2_bestBidder_7 : decode cX2_bestBidder 7 = .ok (.bipush 6, 2) := by decide +kernel
theorem dX2_bestBidder_9 : decode cX2_bestBidder 9 = .ok (.if_icmp .ge 71, 3) := by decide +kernel
theorem dX2_bestBidder_12 : decode cX2_bestBidder 12 = .ok (.iload 4, 2) := by decide +kernel
theorem dX2_bestBidder_14 : decode cX2_bestBidder 14 = .ok (.iload_n 2, 1) := by decide +kernel
theorem dX2_bestBidder_15 : decode cX2_bestBidder 15 = .ok (.if_icmp .eq 33, 3) := by decide +kernel
theorem dX2_bestBidder_18 : decode cX2_bestBidder 18 = .ok (.aload_n 1, 1) := by decide +kernel
theorem dX2_bestBidder_19 : decode cX2_bestBidder 19 = .ok (.getfield 54, 3) := by decide +kernel
theorem dX2_bestBidder_22 : decode cX2_bestBidder 22 = .ok (.iload 4, 2) := by decide +kernel
theorem dX2_bestBidder_24 : decode cX2_bestBidder 24 = .ok (.iaload, 1) := by decide +kernel
theorem dX2_bestBidder_25 : decode cX2_bestBidder 25 = .ok (.ifCond .le 23, 3) := by decide +kernel
theorem dX2_bestBidder_28 : decode cX2_bestBidder 28 = .ok (.aload_n 0, 1) := by decide +kernel
theorem dX2_bestBidder_29 : decode cX2_bestBidder 29 = .ok (.iload 4, 2) := by decide +kernel
theorem dX2_bestBidder_31 : decode cX2_bestBidder 31 = .ok (.aload_n 1, 1) := by decide +kernel
theorem dX2_bestBidder_32 : decode cX2_bestBidder 32 = .ok (.getfield 54, 3) := by decide +kernel
theorem dX2_bestBidder_35 : decode cX2_bestBidder 35 = .ok (.iload 4, 2) := by decide +kernel
theorem dX2_bestBidder_37 : decode cX2_bestBidder 37 = .ok (.iaload, 1) := by decide +kernel
theorem dX2_bestBidder_38 : decode cX2_bestBidder 38 = .ok (.invokevirtual 77, 3) := by decide +kernel
theorem dX2_bestBidder_41 : decode cX2_bestBidder 41 = .ok (.ifCond .eq 7, 3) := by decide +kernel
theorem dX2_bestBidder_44 : decode cX2_bestBidder 44 = .ok (.iconst 1, 1) := by decide +kernel
theorem dX2_bestBidder_45 : decode cX2_bestBidder 45 = .ok (.goto 4, 3) := by decide +kernel
theorem dX2_bestBidder_48 : decode cX2_bestBidder 48 = .ok (.iconst 0, 1) := by decide +kernel
theorem dX2_bestBidder_49 : decode cX2_bestBidder 49 = .ok (.istore 5, 2) := by decide +kernel
theorem dX2_bestBidder_51 : decode cX2_bestBidder 51 = .ok (.iload 5, 2) := by decide +kernel
theorem dX2_bestBidder_53 : decode cX2_bestBidder 53 = .ok (.ifCond .eq 21, 3) := by decide +kernel
theorem dX2_bestBidder_56 : decode cX2_bestBidder 56 = .ok (.iload_n 3, 1) := by decide +kernel
theorem dX2_bestBidder_57 : decode cX2_bestBidder 57 = .ok (.iconst (-1), 1) := by decide +kernel
theorem dX2_bestBidder_58 : decode cX2_bestBidder 58 = .ok (.if_icmp .eq 13, 3) := by decide +kernel
theorem dX2_bestBidder_61 : decode cX2_bestBidder 61 = .ok (.aload_n 1, 1) := by decide +kernel
theorem dX2_bestBidder_62 : decode cX2_bestBidder 62 = .ok (.iload 4, 2) := by decide +kernel
theorem dX2_bestBidder_64 : decode cX2_bestBidder 64 = .ok (.iload_n 3, 1) := by decide +kernel
theorem dX2_bestBidder_65 : decode cX2_bestBidder 65 = .ok (.invokevirtual 176, 3) := by decide +kernel
theorem dX2_bestBidder_68 : decode cX2_bestBidder 68 = .ok (.ifCond .eq 6, 3) := by decide +kernel
theorem dX2_bestBidder_71 : decode cX2_bestBidder 71 = .ok (.iload 4, 2) := by decide +kernel
theorem dX2_bestBidder_73 : decode cX2_bestBidder 73 = .ok (.istore_n 3, 1) := by decide +kernel
theorem dX2_bestBidder_74 : decode cX2_bestBidder 74 = .ok (.iinc 4 1, 3) := by decide +kernel
theorem dX2_bestBidder_77 : decode cX2_bestBidder 77 = .ok (.goto (-72), 3) := by decide +kernel
theorem dX2_bestBidder_80 : decode cX2_bestBidder 80 = .ok (.iload_n 3, 1) := by decide +kernel
theorem dX2_bestBidder_81 : decode cX2_bestBidder 81 = .ok (.ireturn, 1) := by decide +kernel
theorem dX3_init_0 : decode cX3_init 0 = .ok (.aload_n 0, 1) := by decide +kernel
theorem dX3_init_1 : decode cX3_init 1 = .ok (.invokespecial 1, 3) := by decide +kernel
theorem dX3_init_4 : decode cX3_init 4 = .ok (.aload_n 0, 1) := by decide +kernel
theorem dX3_init_5 : decode cX3_init 5 = .ok (.bipush 6, 2) := by decide +kernel
theorem dX3_init_7 : decode cX3_init 7 = .ok (.newarray .int, 2) := by decide +kernel
theorem dX3_init_9 : decode cX3_init 9 = .ok (.putfield 7, 3) := by decide +kernel
theorem dX3_init_12 : decode cX3_init 12 = .ok (.aload_n 0, 1) := by decide +kernel
theorem dX3_init_13 : decode cX3_init 13 = .ok (.bipush 16, 2) := by decide +kernel
theorem dX3_init_15 : decode cX3_init 15 = .ok (.newarray .int, 2) := by decide +kernel
theorem dX3_init_17 : decode cX3_init 17 = .ok (.putfield 13, 3) := by decide +kernel
theorem dX3_init_20 : decode cX3_init 20 = .ok (.aload_n 0, 1) := by decide +kernel
theorem dX3_init_21 : decode cX3_init 21 = .ok (.bipush 16, 2) := by decide +kernel
theorem dX3_init_23 : decode cX3_init 23 = .ok (.newarray .int, 2) := by decide +kernel
theorem dX3_init_25 : decode cX3_init 25 = .ok (.putfield 16, 3) := by decide +kernel
theorem dX3_init_28 : decode cX3_init 28 = .ok (.aload_n 0, 1) := by decide +kernel
theorem dX3_init_29 : decode cX3_init 29 = .ok (.bipush 16, 2) := by decide +kernel
theorem dX3_init_31 : decode cX3_init 31 = .ok (.newarray .int, 2) := by decide +kernel
theorem dX3_init_33 : decode cX3_init 33 = .ok (.putfield 19, 3) := by decide +kernel
theorem dX3_init_36 : decode cX3_init 36 = .ok (.aload_n 0, 1) := by decide +kernel
theorem dX3_init_37 : decode cX3_init 37 = .ok (.bipush 16, 2) := by decide +kernel
theorem dX3_init_39 : decode cX3_init 39 = .ok (.newarray .int, 2) := by decide +kernel
theorem dX3_init_41 : decode cX3_init 41 = .ok (.putfield 22, 3) := by decide +kernel
theorem dX3_init_44 : decode cX3_init 44 = .ok (.aload_n 0, 1) := by decide +kernel
theorem dX3_init_45 : decode cX3_init 45 = .ok (.bipush 16, 2) := by decide +kernel
theorem dX3_init_47 : decode cX3_init 47 = .ok (.newarray .int, 2) := by decide +kernel
theorem dX3_init_49 : decode cX3_init 49 = .ok (.putfield 25, 3) := by decide +kernel
theorem dX3_init_52 : decode cX3_init 52 = .ok (.aload_n 0, 1) := by decide +kernel
theorem dX3_init_53 : decode cX3_init 53 = .ok (.bipush 16, 2) := by decide +kernel
theorem dX3_init_55 : decode cX3_init 55 = .ok (.newarray .int, 2) := by decide +kernel
theorem dX3_init_57 : decode cX3_init 57 = .ok (.putfield 28, 3) := by decide +kernel
theorem dX3_init_60 : decode cX3_init 60 = .ok (.aload_n 0, 1) := by decide +kernel
theorem dX3_init_61 : decode cX3_init 61 = .ok (.bipush 16, 2) := by decide +kernel
theorem dX3_init_63 : decode cX3_init 63 = .ok (.newarray .int, 2) := by decide +kernel
theorem dX3_init_65 : decode cX3_init 65 = .ok (.putfield 31, 3) := by decide +kernel
theorem dX3_init_68 : decode cX3_init 68 = .ok (.aload_n 0, 1) := by decide +kernel
theorem dX3_init_69 : decode cX3_init 69 = .ok (.bipush 16, 2) := by decide +kernel
theorem dX3_init_71 : decode cX3_init 71 = .ok (.newarray .int, 2) := by decide +kernel
theorem dX3_init_73 : decode cX3_init 73 = .ok (.putfield 34, 3) := by decide +kernel
theorem dX3_init_76 : decode cX3_init 76 = .ok (.aload_n 0, 1) := by decide +kernel
theorem dX3_init_77 : decode cX3_init 77 = .ok (.bipush 96, 2) := by decide +kernel
theorem dX3_init_79 : decode cX3_init 79 = .ok (.newarray .int, 2) := by decide +kernel
theorem dX3_init_81 : decode cX3_init 81 = .ok (.putfield 37, 3) := by decide +kernel
theorem dX3_init_84 : decode cX3_init 84 = .ok (.aload_n 0, 1) := by decide +kernel
theorem dX3_init_85 : decode cX3_init 85 = .ok (.bipush 96, 2) := by decide +kernel
theorem dX3_init_87 : decode cX3_init 87 = .ok (.newarray .int, 2) := by decide +kernel
theorem dX3_init_89 : decode cX3_init 89 = .ok (.putfield 40, 3) := by decide +kernel
theorem dX3_init_92 : decode cX3_init 92 = .ok (.aload_n 0, 1) := by decide +kernel
theorem dX3_init_93 : decode cX3_init 93 = .ok (.bipush 48, 2) := by decide +kernel
theorem dX3_init_95 : decode cX3_init 95 = .ok (.newarray .int, 2) := by decide +kernel
theorem dX3_init_97 : decode cX3_init 97 = .ok (.putfield 43, 3) := by decide +kernel
theorem dX3_init_100 : decode cX3_init 100 = .ok (.aload_n 0, 1) := by decide +kernel
theorem dX3_init_101 : decode cX3_init 101 = .ok (.bipush 48, 2) := by decide +kernel
theorem dX3_init_103 : decode cX3_init 103 = .ok (.newarray .int, 2) := by decide +kernel
theorem dX3_init_105 : decode cX3_init 105 = .ok (.putfield 46, 3) := by decide +kernel
theorem dX3_init_108 : decode cX3_init 108 = .ok (.aload_n 0, 1) := by decide +kernel
theorem dX3_init_109 : decode cX3_init 109 = .ok (.bipush 48, 2) := by decide +kernel
theorem dX3_init_111 : decode cX3_init 111 = .ok (.newarray .int, 2) := by decide +kernel
theorem dX3_init_113 : decode cX3_init 113 = .ok (.putfield 49, 3) := by decide +kernel
theorem dX3_init_116 : decode cX3_init 116 = .ok (.iconst 0, 1) := by decide +kernel
theorem dX3_init_117 : decode cX3_init 117 = .ok (.istore_n 1, 1) := by decide +kernel
theorem dX3_init_118 : decode cX3_init 118 = .ok (.iload_n 1, 1) := by decide +kernel
theorem dX3_init_119 : decode cX3_init 119 = .ok (.bipush 16, 2) := by decide +kernel
theorem dX3_init_121 : decode cX3_init 121 = .ok (.if_icmp .ge 16, 3) := by decide +kernel
theorem dX3_init_124 : decode cX3_init 124 = .ok (.aload_n 0, 1) := by decide +kernel
theorem dX3_init_125 : decode cX3_init 125 = .ok (.getfield 16, 3) := by decide +kernel
theorem dX3_init_128 : decode cX3_init 128 = .ok (.iload_n 1, 1) := by decide +kernel
theorem dX3_init_129 : decode cX3_init 129 = .ok (.iconst (-1), 1) := by decide +kernel
theorem dX3_init_130 : decode cX3_init 130 = .ok (.iastore, 1) := by decide +kernel
theorem dX3_init_131 : decode cX3_init 131 = .ok (.iinc 1 1, 3) := by decide +kernel
theorem dX3_init_134 : decode cX3_init 134 = .ok (.goto (-16), 3) := by decide +kernel
theorem dX3_init_137 : decode cX3_init 137 = .ok (.iconst 0, 1) := by decide +kernel
theorem dX3_init_138 : decode cX3_init 138 = .ok (.istore_n 1, 1) := by decide +kernel
theorem dX3_init_139 : decode cX3_init 139 = .ok (.iload_n 1, 1) := by decide +kernel
theorem dX3_init_140 : decode cX3_init 140 = .ok (.bipush 48, 2) := by decide +kernel
theorem dX3_init_142 : decode cX3_init 142 = .ok (.if_icmp .ge 16, 3) := by decide +kernel
theorem dX3_init_145 : decode cX3_init 145 = .ok (.aload_n 0, 1) := by decide +kernel
theorem dX3_init_146 : decode cX3_init 146 = .ok (.getfield 43, 3) := by decide +kernel
theorem dX3_init_149 : decode cX3_init 149 = .ok (.iload_n 1, 1) := by decide +kernel
theorem dX3_init_150 : decode cX3_init 150 = .ok (.iconst (-1), 1) := by decide +kernel
theorem dX3_init_151 : decode cX3_init 151 = .ok (.iastore, 1) := by decide +kernel
theorem dX3_init_152 : decode cX3_init 152 = .ok (.iinc 1 1, 3) := by decide +kernel
theorem dX3_init_155 : decode cX3_init 155 = .ok (.goto (-16), 3) := by decide +kernel
theorem dX3_init_158 : decode cX3_init 158 = .ok (.return_, 1) := by decide +kernel
theorem dX3_thrown_0 : decode cX3_thrown 0 = .ok (.aload_n 0, 1) := by decide +kernel
theorem dX3_thrown_1 : decode cX3_thrown 1 = .ok (.getfield 52, 3) := by decide +kernel
theorem dX3_thrown_4 : decode cX3_thrown 4 = .ok (.ireturn, 1) := by decide +kernel
theorem dX3_fails_0 : decode cX3_fails 0 = .ok (.aload_n 0, 1) := by decide +kernel
theorem dX3_fails_1 : decode cX3_fails 1 = .ok (.iload_n 1, 1) := by decide +kernel
theorem dX3_fails_2 : decode cX3_fails 2 = .ok (.putfield 52, 3) := by decide +kernel
theorem dX3_fails_5 : decode cX3_fails 5 = .ok (.iload_n 1, 1) := by decide +kernel
theorem dX3_fails_6 : decode cX3_fails 6 = .ok (.ifCond .le 7, 3) := by decide +kernel
theorem dX3_fails_9 : decode cX3_fails 9 = .ok (.iconst 1, 1) := by decide +kernel
theorem dX3_fails_10 : decode cX3_fails 10 = .ok (.goto 4, 3) := by decide +kernel
theorem dX3_fails_13 : decode cX3_fails 13 = .ok (.iconst 0, 1) := by decide +kernel
theorem dX3_fails_14 : decode cX3_fails 14 = .ok (.ireturn, 1) := by decide +kernel
theorem dX3_isIn_0 : decode cX3_isIn 0 = .ok (.iload_n 0, 1) := by decide +kernel
theorem dX3_isIn_1 : decode cX3_isIn 1 = .ok (.iload_n 1, 1) := by decide +kernel
theorem dX3_isIn_2 : decode cX3_isIn 2 = .ok (.if_icmp .lt 12, 3) := by decide +kernel
theorem dX3_isIn_5 : decode cX3_isIn 5 = .ok (.iload_n 0, 1) := by decide +kernel
theorem dX3_isIn_6 : decode cX3_isIn 6 = .ok (.iload_n 2, 1) := by decide +kernel
theorem dX3_isIn_7 : decode cX3_isIn 7 = .ok (.if_icmp .gt 7, 3) := by decide +kernel
theorem dX3_isIn_10 : decode cX3_isIn 10 = .ok (.iconst 1, 1) := by decide +kernel
theorem dX3_isIn_11 : decode cX3_isIn 11 = .ok (.goto 4, 3) := by decide +kernel
theorem dX3_isIn_14 : decode cX3_isIn 14 = .ok (.iconst 0, 1) := by decide +kernel
theorem dX3_isIn_15 : decode cX3_isIn 15 = .ok (.ireturn, 1) := by decide +kernel
set_option maxRecDepth 20000 in
theorem ggX3_isName_X3_isIn : GoodIn wsX3_isName wsX3_isIn := goodIn_r _ [4] (by decide +kernel) (by decide +kernel)
set_option maxRecDepth 20000 in
theorem gX3_isName_X3_isIn : GoodIn wsX3_isName (va_wsS RX3 56 yX3_isIn wsX3_isIn) := goodIn_app (goodIn_of _ (by decide +kernel)) ggX3_isName_X3_isIn
theorem dX3_isName_0 : decode cX3_isName 0 = .ok (.iload_n 0, 1) := by decide +kernel
theorem dX3_isName_1 : decode cX3_isName 1 = .ok (.iconst 0, 1) := by decide +kernel
theorem dX3_isName_2 : decode cX3_isName 2 = .ok (.bipush 15, 2) := by decide +kernel
theorem dX3_isName_4 : decode cX3_isName 4 = .ok (.invokestatic 56, 3) := by decide +kernel
theorem dX3_isName_7 : decode cX3_isName 7 = .ok (.ireturn, 1) := by decide +kernel
set_option maxRecDepth 20000 in
theorem ggX3_isOwner_X3_isIn : GoodIn wsX3_isOwner wsX3_isIn := goodIn_r _ [4] (by decide +kernel) (by decide +kernel)
set_option maxRecDepth 20000 in
theorem gX3_isOwner_X3_isIn : GoodIn wsX3_isOwner (va_wsS RX3 56 yX3_isIn wsX3_isIn) := goodIn_app (goodIn_of _ (by decide +kernel)) ggX3_isOwner_X3_isIn
theorem dX3_isOwner_0 : decode cX3_isOwner 0 = .ok (.iload_n 0, 1) := by decide +kernel
theorem dX3_isOwner_1 : decode cX3_isOwner 1 = .ok (.iconst 0, 1) := by decide +kernel
theorem dX3_isOwner_2 : decode cX3_isOwner 2 = .ok (.iconst 5, 1) := by decide +kernel
theorem dX3_isOwner_3 : decode cX3_isOwner 3 = .ok (.invokestatic 56, 3) := by decide +kernel
theorem dX3_isOwner_6 : decode cX3_isOwner 6 = .ok (.ireturn, 1) := by decide +kernel
set_option maxRecDepth 20000 in
theorem ggX3_deposit_X3_isOwner : GoodIn wsX3_deposit wsX3_isOwner := goodIn_r _ [6, 7, 8, 5, 9] (by decide +kernel) (by decide +kernel)
set_option maxRecDepth 20000 in
theorem gX3_deposit_X3_isOwner : GoodIn wsX3_deposit (va_wsS RX3 60 yX3_isOwner wsX3_isOwner) := goodIn_app (goodIn_of _ (by decide +kernel)) ggX3_deposit_X3_isOwner
set_option maxRecDepth 20000 in
theorem ggX3_deposit_X3_isIn : GoodIn wsX3_deposit wsX3_isIn := goodIn_r _ [9] (by decide +kernel) (by decide +kernel)
set_option maxRecDepth 20000 in
theorem gX3_deposit_X3_isIn : GoodIn wsX3_deposit (va_wsS RX3 56 yX3_isIn wsX3_isIn) := goodIn_app (goodIn_of _ (by decide +kernel)) ggX3_deposit_X3_isIn
set_option maxRecDepth 20000 in
theorem ggX3_deposit_X3_fails : GoodIn wsX3_deposit wsX3_fails := goodIn_r _ [13, 14, 15, 16, 17, 18, 19, 20, 21, 22, 23, 24, 25, 26, 27, 28, 29, 30, 31, 32] (by decide +kernel) (by decide +kernel)
set_option maxRecDepth 20000 in
theorem gX3_deposit_X3_fails : GoodIn wsX3_deposit (wsV RX3 65 RX3 yX3_fails wsX3_fails) := goodIn_app (goodIn_of _ (by decide +kernel)) ggX3_deposit_X3_fails
theorem dX3_deposit_0 : decode cX3_deposit 0 = .ok (.aload_n 0, 1) := by decide +kernel
theorem dX3_deposit_1 : decode cX3_deposit 1 = .ok (.iload_n 1, 1) := by decide +kernel
theorem dX3_deposit_2 : decode cX3_deposit 2 = .ok (.invokestatic 60, 3) := by decide +kernel
theorem dX3_deposit_5 : decode cX3_deposit 5 = .ok (.ifCond .ne 7, 3) := by decide +kernel
theorem dX3_deposit_8 : decode cX3_deposit 8 = .ok (.iconst 1, 1) := by decide +kernel
theorem dX3_deposit_9 : decode cX3_deposit 9 = .ok (.goto 18, 3) := by decide +kernel
theorem dX3_deposit_12 : decode cX3_deposit 12 = .ok (.iload_n 2, 1) := by decide +kernel
theorem dX3_deposit_13 : decode cX3_deposit 13 = .ok (.iconst 1, 1) := by decide +kernel
theorem dX3_deposit_14 : decode cX3_deposit 14 = .ok (.ldc 64, 2) := by decide +kernel
theorem dX3_deposit_16 : decode cX3_deposit 16 = .ok (.invokestatic 56, 3) := by decide +kernel
theorem dX3_deposit_19 : decode cX3_deposit 19 = .ok (.ifCond .eq 7, 3) := by decide +kernel
theorem dX3_deposit_22 : decode cX3_deposit 22 = .ok (.iconst 0, 1) := by decide +kernel
theorem dX3_deposit_23 : decode cX3_deposit 23 = .ok (.goto 4, 3) := by decide +kernel
theorem dX3_deposit_26 : decode cX3_deposit 26 = .ok (.iconst 2, 1) := by decide +kernel
theorem dX3_deposit_27 : decode cX3_deposit 27 = .ok (.invokevirtual 65, 3) := by decide +kernel
theorem dX3_deposit_30 : decode cX3_deposit 30 = .ok (.ifCond .eq 5, 3) := by decide +kernel
theorem dX3_deposit_33 : decode cX3_deposit 33 = .ok (.iconst 0, 1) := by decide +kernel
theorem dX3_deposit_34 : decode cX3_deposit 34 = .ok (.ireturn, 1) := by decide +kernel
theorem dX3_deposit_35 : decode cX3_deposit 35 = .ok (.aload_n 0, 1) := by decide +kernel
theorem dX3_deposit_36 : decode cX3_deposit 36 = .ok (.getfield 7, 3) := by decide +kernel
theorem dX3_deposit_39 : decode cX3_deposit 39 = .ok (.iload_n 1, 1) := by decide +kernel
theorem dX3_deposit_40 : decode cX3_deposit 40 = .ok (.dup2, 1) := by decide +kernel
theorem dX3_deposit_41 : decode cX3_deposit 41 = .ok (.iaload, 1) := by decide +kernel
theorem dX3_deposit_42 : decode cX3_deposit 42 = .ok (.iload_n 2, 1) := by decide +kernel
theorem dX3_deposit_43 : decode cX3_deposit 43 = .ok (.iadd, 1) := by decide +kernel
theorem dX3_deposit_44 : decode cX3_deposit 44 = .ok (.iastore, 1) := by decide +kernel
theorem dX3_deposit_45 : decode cX3_deposit 45 = .ok (.aload_n 0, 1) := by decide +kernel
theorem dX3_deposit_46 : decode cX3_deposit 46 = .ok (.getfield 7, 3) := by decide +kernel
theorem dX3_deposit_49 : decode cX3_deposit 49 = .ok (.iload_n 1, 1) := by decide +kernel
theorem dX3_deposit_50 : decode cX3_deposit 50 = .ok (.iaload, 1) := by decide +kernel
theorem dX3_deposit_51 : decode cX3_deposit 51 = .ok (.ireturn, 1) := by decide +kernel
set_option maxRecDepth 20000 in
theorem ggX3_funds_X3_isOwner : GoodIn wsX3_funds wsX3_isOwner := goodIn_r _ [5, 6, 7, 4, 8] (by decide +kernel) (by decide +kernel)
set_option maxRecDepth 20000 in
theorem gX3_funds_X3_isOwner : GoodIn wsX3_funds (va_wsS RX3 60 yX3_isOwner wsX3_isOwner) := goodIn_app (goodIn_of _ (by decide +kernel)) ggX3_funds_X3_isOwner
set_option maxRecDepth 20000 in
theorem ggX3_funds_X3_fails : GoodIn wsX3_funds wsX3_fails := goodIn_r _ [12, 13, 14, 15, 16, 17, 18, 19, 20, 21, 22, 23, 24, 25, 26, 27, 28, 29, 30, 31] (by decide +kernel) (by decide +kernel)
set_option maxRecDepth 20000 in
theorem gX3_funds_X3_fails : GoodIn wsX3_funds (wsV RX3 65 RX3 yX3_fails wsX3_fails) := goodIn_app (goodIn_of _ (by decide +kernel)) ggX3_funds_X3_fails
theorem dX3_funds_0 : decode cX3_funds 0 = .ok (.aload_n 0, 1) := by decide +kernel
theorem dX3_funds_1 : decode cX3_funds 1 = .ok (.iload_n 1, 1) := by decide +kernel
theorem dX3_funds_2 : decode cX3_funds 2 = .ok (.invokestatic 60, 3) := by decide +kernel
theorem dX3_funds_5 : decode cX3_funds 5 = .ok (.ifCond .eq 7, 3) := by decide +kernel
theorem dX3_funds_8 : decode cX3_funds 8 = .ok (.iconst 0, 1) := by decide +kernel
theorem dX3_funds_9 : decode cX3_funds 9 = .ok (.goto 4, 3) := by decide +kernel
theorem dX3_funds_12 : decode cX3_funds 12 = .ok (.iconst 1, 1) := by decide +kernel
theorem dX3_funds_13 : decode cX3_funds 13 = .ok (.invokevirtual 65, 3) := by decide +kernel
theorem dX3_funds_16 : decode cX3_funds 16 = .ok (.ifCond .eq 7, 3) := by decide +kernel
theorem dX3_funds_19 : decode cX3_funds 19 = .ok (.iconst 0, 1) := by decide +kernel
theorem dX3_funds_20 : decode cX3_funds 20 = .ok (.goto 9, 3) := by decide +kernel
theorem dX3_funds_23 : decode cX3_funds 23 = .ok (.aload_n 0, 1) := by decide +kernel
theorem dX3_funds_24 : decode cX3_funds 24 = .ok (.getfield 7, 3) := by decide +kernel
theorem dX3_funds_27 : decode cX3_funds 27 = .ok (.iload_n 1, 1) := by decide +kernel
theorem dX3_funds_28 : decode cX3_funds 28 = .ok (.iaload, 1) := by decide +kernel
theorem dX3_funds_29 : decode cX3_funds 29 = .ok (.ireturn, 1) := by decide +kernel
set_option maxRecDepth 20000 in
theorem ggX3_bid_X3_isOwner : GoodIn wsX3_bid wsX3_isOwner := goodIn_r _ [11, 12, 13, 10, 14] (by decide +kernel) (by decide +kernel)
set_option maxRecDepth 20000 in
theorem gX3_bid_X3_isOwner : GoodIn wsX3_bid (va_wsS RX3 60 yX3_isOwner wsX3_isOwner) := goodIn_app (goodIn_of _ (by decide +kernel)) ggX3_bid_X3_isOwner
set_option maxRecDepth 20000 in
theorem ggX3_bid_X3_isName : GoodIn wsX3_bid wsX3_isName := goodIn_r _ [17, 12, 13, 10, 14] (by decide +kernel) (by decide +kernel)
set_option maxRecDepth 20000 in
theorem gX3_bid_X3_isName : GoodIn wsX3_bid (va_wsS RX3 68 yX3_isName wsX3_isName) := goodIn_app (goodIn_of _ (by decide +kernel)) ggX3_bid_X3_isName
set_option maxRecDepth 20000 in
theorem ggX3_bid_X3_isIn : GoodIn wsX3_bid wsX3_isIn := goodIn_r _ [14] (by decide +kernel) (by decide +kernel)
set_option maxRecDepth 20000 in
theorem gX3_bid_X3_isIn : GoodIn wsX3_bid (va_wsS RX3 56 yX3_isIn wsX3_isIn) := goodIn_app (goodIn_of _ (by decide +kernel)) ggX3_bid_X3_isIn
set_option maxRecDepth 20000 in
theorem ggX3_bid_X3_fails : GoodIn wsX3_bid wsX3_fails := goodIn_r _ [21, 22, 23, 24, 25, 26, 27, 28, 29, 30, 31, 32, 33, 34, 35, 36, 37, 38, 39, 40] (by decide +kernel) (by decide +kernel)
set_option maxRecDepth 20000 in
theorem gX3_bid_X3_fails : GoodIn wsX3_bid (wsV RX3 65 RX3 yX3_fails wsX3_fails) := goodIn_app (goodIn_of _ (by decide +kernel)) ggX3_bid_X3_fails
theorem dX3_bid_0 : decode cX3_bid 0 = .ok (.iload_n 1, 1) := by decide +kernel
theorem dX3_bid_1 : decode cX3_bid 1 = .ok (.invokestatic 60, 3) := by decide +kernel
theorem dX3_bid_4 : decode cX3_bid 4 = .ok (.ifCond .eq 14, 3) := by decide +kernel
theorem dX3_bid_7 : decode cX3_bid 7 = .ok (.iload_n 2, 1) := by decide +kernel
theorem dX3_bid_8 : decode cX3_bid 8 = .ok (.invokestatic 68, 3) := by decide +kernel
theorem dX3_bid_11 : decode cX3_bid 11 = .ok (.ifCond .eq 7, 3) := by decide +kernel
theorem dX3_bid_14 : decode cX3_bid 14 = .ok (.iconst 1, 1) := by decide +kernel
theorem dX3_bid_15 : decode cX3_bid 15 = .ok (.goto 4, 3) := by decide +kernel
theorem dX3_bid_18 : decode cX3_bid 18 = .ok (.iconst 0, 1) := by decide +kernel
theorem dX3_bid_19 : decode cX3_bid 19 = .ok (.istore 4, 2) := by decide +kernel
theorem dX3_bid_21 : decode cX3_bid 21 = .ok (.aload_n 0, 1) := by decide +kernel
theorem dX3_bid_22 : decode cX3_bid 22 = .ok (.iload 4, 2) := by decide +kernel
theorem dX3_bid_24 : decode cX3_bid 24 = .ok (.ifCond .ne 7, 3) := by decide +kernel
theorem dX3_bid_27 : decode cX3_bid 27 = .ok (.iconst 1, 1) := by decide +kernel
theorem dX3_bid_28 : decode cX3_bid 28 = .ok (.goto 33, 3) := by decide +kernel
theorem dX3_bid_31 : decode cX3_bid 31 = .ok (.iload_n 3, 1) := by decide +kernel
theorem dX3_bid_32 : decode cX3_bid 32 = .ok (.bipush 10, 2) := by decide +kernel
theorem dX3_bid_34 : decode cX3_bid 34 = .ok (.ldc 64, 2) := by decide +kernel
theorem dX3_bid_36 : decode cX3_bid 36 = .ok (.invokestatic 56, 3) := by decide +kernel
theorem dX3_bid_39 : decode cX3_bid 39 = .ok (.ifCond .ne 7, 3) := by decide +kernel
theorem dX3_bid_42 : decode cX3_bid 42 = .ok (.iconst 2, 1) := by decide +kernel
theorem dX3_bid_43 : decode cX3_bid 43 = .ok (.goto 18, 3) := by decide +kernel
theorem dX3_bid_46 : decode cX3_bid 46 = .ok (.aload_n 0, 1) := by decide +kernel
theorem dX3_bid_47 : decode cX3_bid 47 = .ok (.getfield 13, 3) := by decide +kernel
theorem dX3_bid_50 : decode cX3_bid 50 = .ok (.iload_n 2, 1) := by decide +kernel
theorem dX3_bid_51 : decode cX3_bid 51 = .ok (.iaload, 1) := by decide +kernel
theorem dX3_bid_52 : decode cX3_bid 52 = .ok (.iconst 1, 1) := by decide +kernel
theorem dX3_bid_53 : decode cX3_bid 53 = .ok (.if_icmp .le 7, 3) := by decide +kernel
theorem dX3_bid_56 : decode cX3_bid 56 = .ok (.iconst 3, 1) := by decide +kernel
theorem dX3_bid_57 : decode cX3_bid 57 = .ok (.goto 4, 3) := by decide +kernel
theorem dX3_bid_60 : decode cX3_bid 60 = .ok (.iconst 0, 1) := by decide +kernel
theorem dX3_bid_61 : decode cX3_bid 61 = .ok (.invokevirtual 65, 3) := by decide +kernel
theorem dX3_bid_64 : decode cX3_bid 64 = .ok (.ifCond .eq 5, 3) := by decide +kernel
theorem dX3_bid_67 : decode cX3_bid 67 = .ok (.iconst 0, 1) := by decide +kernel
theorem dX3_bid_68 : decode cX3_bid 68 = .ok (.ireturn, 1) := by decide +kernel
theorem dX3_bid_69 : decode cX3_bid 69 = .ok (.aload_n 0, 1) := by decide +kernel
theorem dX3_bid_70 : decode cX3_bid 70 = .ok (.getfield 13, 3) := by decide +kernel
theorem dX3_bid_73 : decode cX3_bid 73 = .ok (.iload_n 2, 1) := by decide +kernel
theorem dX3_bid_74 : decode cX3_bid 74 = .ok (.iaload, 1) := by decide +kernel
theorem dX3_bid_75 : decode cX3_bid 75 = .ok (.ifCond .ne 22, 3) := by decide +kernel
theorem dX3_bid_78 : decode cX3_bid 78 = .ok (.aload_n 0, 1) := by decide +kernel
theorem dX3_bid_79 : decode cX3_bid 79 = .ok (.getfield 13, 3) := by decide +kernel
theorem dX3_bid_82 : decode cX3_bid 82 = .ok (.iload_n 2, 1) := by decide +kernel
theorem dX3_bid_83 : decode cX3_bid 83 = .ok (.iconst 1, 1) := by decide +kernel
theorem dX3_bid_84 : decode cX3_bid 84 = .ok (.iastore, 1) := by decide +kernel
theorem dX3_bid_85 : decode cX3_bid 85 = .ok (.aload_n 0, 1) := by decide +kernel
theorem dX3_bid_86 : decode cX3_bid 86 = .ok (.getfield 19, 3) := by decide +kernel
theorem dX3_bid_89 : decode cX3_bid 89 = .ok (.iload_n 2, 1) := by decide +kernel
theorem dX3_bid_90 : decode cX3_bid 90 = .ok (.aload_n 0, 1) := by decide +kernel
theorem dX3_bid_91 : decode cX3_bid 91 = .ok (.getfield 71, 3) := by decide +kernel
theorem dX3_bid_94 : decode cX3_bid 94 = .ok (.iconst 5, 1) := by decide +kernel
theorem dX3_bid_95 : decode cX3_bid 95 = .ok (.iadd, 1) := by decide +kernel
theorem dX3_bid_96 : decode cX3_bid 96 = .ok (.iastore, 1) := by decide +kernel
theorem dX3_bid_97 : decode cX3_bid 97 = .ok (.aload_n 0, 1) := by decide +kernel
theorem dX3_bid_98 : decode cX3_bid 98 = .ok (.getfield 37, 3) := by decide +kernel
theorem dX3_bid_101 : decode cX3_bid 101 = .ok (.bipush 6, 2) := by decide +kernel
theorem dX3_bid_103 : decode cX3_bid 103 = .ok (.iload_n 2, 1) := by decide +kernel
theorem dX3_bid_104 : decode cX3_bid 104 = .ok (.imul, 1) := by decide +kernel
theorem dX3_bid_105 : decode cX3_bid 105 = .ok (.iload_n 1, 1) := by decide +kernel
theorem dX3_bid_106 : decode cX3_bid 106 = .ok (.iadd, 1) := by decide +kernel
theorem dX3_bid_107 : decode cX3_bid 107 = .ok (.iload_n 3, 1) := by decide +kernel
theorem dX3_bid_108 : decode cX3_bid 108 = .ok (.iastore, 1) := by decide +kernel
theorem dX3_bid_109 : decode cX3_bid 109 = .ok (.aload_n 0, 1) := by decide +kernel
theorem dX3_bid_110 : decode cX3_bid 110 = .ok (.getfield 40, 3) := by decide +kernel
theorem dX3_bid_113 : decode cX3_bid 113 = .ok (.bipush 6, 2) := by decide +kernel
theorem dX3_bid_115 : decode cX3_bid 115 = .ok (.iload_n 2, 1) := by decide +kernel
theorem dX3_bid_116 : decode cX3_bid 116 = .ok (.imul, 1) := by decide +kernel
theorem dX3_bid_117 : decode cX3_bid 117 = .ok (.iload_n 1, 1) := by decide +kernel
theorem dX3_bid_118 : decode cX3_bid 118 = .ok (.iadd, 1) := by decide +kernel
theorem dX3_bid_119 : decode cX3_bid 119 = .ok (.aload_n 0, 1) := by decide +kernel
theorem dX3_bid_120 : decode cX3_bid 120 = .ok (.getfield 74, 3) := by decide +kernel
theorem dX3_bid_123 : decode cX3_bid 123 = .ok (.iastore, 1) := by decide +kernel
theorem dX3_bid_124 : decode cX3_bid 124 = .ok (.aload_n 0, 1) := by decide +kernel
theorem dX3_bid_125 : decode cX3_bid 125 = .ok (.dup, 1) := by decide +kernel
theorem dX3_bid_126 : decode cX3_bid 126 = .ok (.getfield 74, 3) := by decide +kernel
theorem dX3_bid_129 : decode cX3_bid 129 = .ok (.iconst 1, 1) := by decide +kernel
theorem dX3_bid_130 : decode cX3_bid 130 = .ok (.iadd, 1) := by decide +kernel
theorem dX3_bid_131 : decode cX3_bid 131 = .ok (.putfield 74, 3) := by decide +kernel
theorem dX3_bid_134 : decode cX3_bid 134 = .ok (.aload_n 0, 1) := by decide +kernel
theorem dX3_bid_135 : decode cX3_bid 135 = .ok (.getfield 19, 3) := by decide +kernel
theorem dX3_bid_138 : decode cX3_bid 138 = .ok (.iload_n 2, 1) := by decide +kernel
theorem dX3_bid_139 : decode cX3_bid 139 = .ok (.iaload, 1) := by decide +kernel
theorem dX3_bid_140 : decode cX3_bid 140 = .ok (.ireturn, 1) := by decide +kernel
set_option maxRecDepth 20000 in
theorem ggX3_bids_X3_isName : GoodIn wsX3_bids wsX3_isName := goodIn_r _ [5, 6, 7, 4, 8] (by decide +kernel) (by decide +kernel)
set_option maxRecDepth 20000 in
theorem gX3_bids_X3_isName : GoodIn wsX3_bids (va_wsS RX3 68 yX3_isName wsX3_isName) := goodIn_app (goodIn_of _ (by decide +kernel)) ggX3_bids_X3_isName
set_option maxRecDepth 20000 in
theorem ggX3_bids_X3_fails : GoodIn wsX3_bids wsX3_fails := goodIn_r _ [12, 13, 14, 15, 16, 17, 18, 19, 20, 21, 22, 23, 24, 25, 26, 27, 28, 29, 30, 31] (by decide +kernel) (by decide +kernel)
set_option maxRecDepth 20000 in
theorem gX3_bids_X3_fails : GoodIn wsX3_bids (wsV RX3 65 RX3 yX3_fails wsX3_fails) := goodIn_app (goodIn_of _ (by decide +kernel)) ggX3_bids_X3_fails
theorem dX3_bids_0 : decode cX3_bids 0 = .ok (.aload_n 0, 1) := by decide +kernel
theorem dX3_bids_1 : decode cX3_bids 1 = .ok (.iload_n 1, 1) := by decide +kernel
theorem dX3_bids_2 : decode cX3_bids 2 = .ok (.invokestatic 68, 3) := by decide +kernel
theorem dX3_bids_5 : decode cX3_bids 5 = .ok (.ifCond .eq 7, 3) := by decide +kernel
theorem dX3_bids_8 : decode cX3_bids 8 = .ok (.iconst 0, 1) := by decide +kernel
theorem dX3_bids_9 : decode cX3_bids 9 = .ok (.goto 4, 3) := by decide +kernel
theorem dX3_bids_12 : decode cX3_bids 12 = .ok (.iconst 1, 1) := by decide +kernel
theorem dX3_bids_13 : decode cX3_bids 13 = .ok (.invokevirtual 65, 3) := by decide +kernel
theorem dX3_bids_16 : decode cX3_bids 16 = .ok (.ifCond .eq 5, 3) := by decide +kernel
theorem dX3_bids_19 : decode cX3_bids 19 = .ok (.iconst 0, 1) := by decide +kernel
theorem dX3_bids_20 : decode cX3_bids 20 = .ok (.ireturn, 1) := by decide +kernel
theorem dX3_bids_21 : decode cX3_bids 21 = .ok (.iconst 0, 1) := by decide +kernel
theorem dX3_bids_22 : decode cX3_bids 22 = .ok (.istore_n 2, 1) := by decide +kernel
theorem dX3_bids_23 : decode cX3_bids 23 = .ok (.bipush 6, 2) := by decide +kernel
theorem dX3_bids_25 : decode cX3_bids 25 = .ok (.iload_n 1, 1) := by decide +kernel
theorem dX3_bids_26 : decode cX3_bids 26 = .ok (.imul, 1) := by decide +kernel
theorem dX3_bids_27 : decode cX3_bids 27 = .ok (.istore_n 3, 1) := by decide +kernel
theorem dX3_bids_28 : decode cX3_bids 28 = .ok (.iload_n 3, 1) := by decide +kernel
theorem dX3_bids_29 : decode cX3_bids 29 = .ok (.bipush 6, 2) := by decide +kernel
theorem dX3_bids_31 : decode cX3_bids 31 = .ok (.iload_n 1, 1) := by decide +kernel
theorem dX3_bids_32 : decode cX3_bids 32 = .ok (.imul, 1) := by decide +kernel
theorem dX3_bids_33 : decode cX3_bids 33 = .ok (.bipush 6, 2) := by decide +kernel
theorem dX3_bids_35 : decode cX3_bids 35 = .ok (.iadd, 1) := by decide +kernel
theorem dX3_bids_36 : decode cX3_bids 36 = .ok (.if_icmp .ge 26, 3) := by decide +kernel
theorem dX3_bids_39 : decode cX3_bids 39 = .ok (.iload_n 2, 1) := by decide +kernel
theorem dX3_bids_40 : decode cX3_bids 40 = .ok (.aload_n 0, 1) := by decide +kernel
theorem dX3_bids_41 : decode cX3_bids 41 = .ok (.getfield 37, 3) := by decide +kernel
theorem dX3_bids_44 : decode cX3_bids 44 = .ok (.iload_n 3, 1) := by decide +kernel
theorem dX3_bids_45 : decode cX3_bids 45 = .ok (.iaload, 1) := by decide +kernel
theorem dX3_bids_46 : decode cX3_bids 46 = .ok (.ifCond .le 7, 3) := by decide +kernel
theorem dX3_bids_49 : decode cX3_bids 49 = .ok (.iconst 1, 1) := by decide +kernel
theorem dX3_bids_50 : decode cX3_bids 50 = .ok (.goto 4, 3) := by decide +kernel
theorem dX3_bids_53 : decode cX3_bids 53 = .ok (.iconst 0, 1) := by decide +kernel
theorem dX3_bids_54 : decode cX3_bids 54 = .ok (.iadd, 1) := by decide +kernel
theorem dX3_bids_55 : decode cX3_bids 55 = .ok (.istore_n 2, 1) := by decide +kernel
theorem dX3_bids_56 : decode cX3_bids 56 = .ok (.iinc 3 1, 3) := by decide +kernel
theorem dX3_bids_59 : decode cX3_bids 59 = .ok (.goto (-31), 3) := by decide +kernel
theorem dX3_bids_62 : decode cX3_bids 62 = .ok (.iload_n 2, 1) := by decide +kernel
theorem dX3_bids_63 : decode cX3_bids 63 = .ok (.ireturn, 1) := by decide +kernel
theorem dX3_clears_0 : decode cX3_clears 0 = .ok (.bipush 6, 2) := by decide +kernel
theorem dX3_clears_2 : decode cX3_clears 2 = .ok (.iload_n 1, 1) := by decide +kernel
theorem dX3_clears_3 : decode cX3_clears 3 = .ok (.imul, 1) := by decide +kernel
theorem dX3_clears_4 : decode cX3_clears 4 = .ok (.istore_n 2, 1) := by decide +kernel
theorem dX3_clears_5 : decode cX3_clears 5 = .ok (.iload_n 2, 1) := by decide +kernel
theorem dX3_clears_6 : decode cX3_clears 6 = .ok (.bipush 6, 2) := by decide +kernel
theorem dX3_clears_8 : decode cX3_clears 8 = .ok (.iload_n 1, 1) := by decide +kernel
theorem dX3_clears_9 : decode cX3_clears 9 = .ok (.imul, 1) := by decide +kernel
theorem dX3_clears_10 : decode cX3_clears 10 = .ok (.bipush 6, 2) := by decide +kernel
theorem dX3_clears_12 : decode cX3_clears 12 = .ok (.iadd, 1) := by decide +kernel
theorem dX3_clears_13 : decode cX3_clears 13 = .ok (.if_icmp .ge 16, 3) := by decide +kernel
theorem dX3_clears_16 : decode cX3_clears 16 = .ok (.aload_n 0, 1) := by decide +kernel
theorem dX3_clears_17 : decode cX3_clears 17 = .ok (.getfield 37, 3) := by decide +kernel
theorem dX3_clears_20 : decode cX3_clears 20 = .ok (.iload_n 2, 1) := by decide +kernel
theorem dX3_clears_21 : decode cX3_clears 21 = .ok (.iconst 0, 1) := by decide +kernel
theorem dX3_clears_22 : decode cX3_clears 22 = .ok (.iastore, 1) := by decide +kernel
theorem dX3_clears_23 : decode cX3_clears 23 = .ok (.iinc 2 1, 3) := by decide +kernel
theorem dX3_clears_26 : decode cX3_clears 26 = .ok (.goto (-21), 3) := by decide +kernel
theorem dX3_clears_29 : decode cX3_clears 29 = .ok (.return_, 1) := by decide +kernel
theorem dX3_leases_0 : decode cX3_leases 0 = .ok (.aload_n 0, 1) := by decide +kernel
theorem dX3_leases_1 : decode cX3_leases 1 = .ok (.getfield 13, 3) := by decide +kernel
theorem dX3_leases_4 : decode cX3_leases 4 = .ok (.iload_n 1, 1) := by decide +kernel
theorem dX3_leases_5 : decode cX3_leases 5 = .ok (.iconst 2, 1) := by decide +kernel
theorem dX3_leases_6 : decode cX3_leases 6 = .ok (.iastore, 1) := by decide +kernel
theorem dX3_leases_7 : decode cX3_leases 7 = .ok (.aload_n 0, 1) := by decide +kernel
theorem dX3_leases_8 : decode cX3_leases 8 = .ok (.getfield 16, 3) := by decide +kernel
theorem dX3_leases_11 : decode cX3_leases 11 = .ok (.iload_n 1, 1) := by decide +kernel
theorem dX3_leases_12 : decode cX3_leases 12 = .ok (.iload_n 2, 1) := by decide +kernel
theorem dX3_leases_13 : decode cX3_leases 13 = .ok (.iastore, 1) := by decide +kernel
theorem dX3_leases_14 : decode cX3_leases 14 = .ok (.aload_n 0, 1) := by decide +kernel
theorem dX3_leases_15 : decode cX3_leases 15 = .ok (.getfield 19, 3) := by decide +kernel
theorem dX3_leases_18 : decode cX3_leases 18 = .ok (.iload_n 1, 1) := by decide +kernel
theorem dX3_leases_19 : decode cX3_leases 19 = .ok (.aload_n 0, 1) := by decide +kernel
theorem dX3_leases_20 : decode cX3_leases 20 = .ok (.getfield 71, 3) := by decide +kernel
theorem dX3_leases_23 : decode cX3_leases 23 = .ok (.bipush 100, 2) := by decide +kernel
theorem dX3_leases_25 : decode cX3_leases 25 = .ok (.iadd, 1) := by decide +kernel
theorem dX3_leases_26 : decode cX3_leases 26 = .ok (.iastore, 1) := by decide +kernel
theorem dX3_leases_27 : decode cX3_leases 27 = .ok (.aload_n 0, 1) := by decide +kernel
theorem dX3_leases_28 : decode cX3_leases 28 = .ok (.getfield 22, 3) := by decide +kernel
theorem dX3_leases_31 : decode cX3_leases 31 = .ok (.iload_n 1, 1) := by decide +kernel
theorem dX3_leases_32 : decode cX3_leases 32 = .ok (.iconst 0, 1) := by decide +kernel
theorem dX3_leases_33 : decode cX3_leases 33 = .ok (.iastore, 1) := by decide +kernel
theorem dX3_leases_34 : decode cX3_leases 34 = .ok (.aload_n 0, 1) := by decide +kernel
theorem dX3_leases_35 : decode cX3_leases 35 = .ok (.getfield 25, 3) := by decide +kernel
theorem dX3_leases_38 : decode cX3_leases 38 = .ok (.iload_n 1, 1) := by decide +kernel
theorem dX3_leases_39 : decode cX3_leases 39 = .ok (.bipush 10, 2) := by decide +kernel
theorem dX3_leases_41 : decode cX3_leases 41 = .ok (.iastore, 1) := by decide +kernel
theorem dX3_leases_42 : decode cX3_leases 42 = .ok (.return_, 1) := by decide +kernel
theorem dX3_bestBut_0 : decode cX3_bestBut 0 = .ok (.iconst (-1), 1) := by decide +kernel
theorem dX3_bestBut_1 : decode cX3_bestBut 1 = .ok (.istore_n 3, 1) := by decide +kernel
theorem dX3_bestBut_2 : decode cX3_bestBut 2 = .ok (.iconst 0, 1) := by decide +kernel
theorem dX3_bestBut_3 : decode cX3_bestBut 3 = .ok (.istore 4, 2) := by decide +kernel
theorem dX3_bestBut_5 : decode cX3_bestBut 5 = .ok (.iload 4, 2) := by decide +kernel
theorem dX3_bestBut_7 : decode cX3_bestBut 7 = .ok (.bipush 6, 2) := by decide +kernel
theorem dX3_bestBut_9 : decode cX3_bestBut 9 = .ok (.if_icmp .ge 150, 3) := by decide +kernel
theorem dX3_bestBut_12 : decode cX3_bestBut 12 = .ok (.bipush 6, 2) := by decide +kernel
theorem dX3_bestBut_14 : decode cX3_bestBut 14 = .ok (.iload_n 1, 1) := by decide +kernel
theorem dX3_bestBut_15 : decode cX3_bestBut 15 = .ok (.imul, 1) := by decide +kernel
theorem dX3_bestBut_16 : decode cX3_bestBut 16 = .ok (.iload 4, 2) := by decide +kernel
theorem dX3_bestBut_18 : decode cX3_bestBut 18 = .ok (.iadd, 1) := by decide +kernel
theorem dX3_bestBut_19 : decode cX3_bestBut 19 = .ok (.istore 5, 2) := by decide +kernel
theorem dX3_bestBut_21 : decode cX3_bestBut 21 = .ok (.iload 4, 2) := by decide +kernel
theorem dX3_bestBut_23 : decode cX3_bestBut 23 = .ok (.iload_n 2, 1) := by decide +kernel
theorem dX3_bestBut_24 : decode cX3_bestBut 24 = .ok (.if_icmp .eq 34, 3) := by decide +kernel
theorem dX3_bestBut_27 : decode cX3_bestBut 27 = .ok (.aload_n 0, 1) := by decide +kernel
theorem dX3_bestBut_28 : decode cX3_bestBut 28 = .ok (.getfield 37, 3) := by decide +kernel
theorem dX3_bestBut_31 : decode cX3_bestBut 31 = .ok (.iload 5, 2) := by decide +kernel
theorem dX3_bestBut_33 : decode cX3_bestBut 33 = .ok (.iaload, 1) := by decide +kernel
theorem dX3_bestBut_34 : decode cX3_bestBut 34 = .ok (.ifCond .le 24, 3) := by decide +kernel
theorem dX3_bestBut_37 : decode cX3_bestBut 37 = .ok (.aload_n 0, 1) := by decide +kernel
theorem dX3_bestBut_38 : decode cX3_bestBut 38 = .ok (.getfield 7, 3) := by decide +kernel
theorem dX3_bestBut_41 : decode cX3_bestBut 41 = .ok (.iload 4, 2) := by decide +kernel
theorem dX3_bestBut_43 : decode cX3_bestBut 43 = .ok (.iaload, 1) := by decide +kernel
theorem dX3_bestBut_44 : decode cX3_bestBut 44 = .ok (.aload_n 0, 1) := by decide +kernel
theorem dX3_bestBut_45 : decode cX3_bestBut 45 = .ok (.getfield 37, 3) := by decide +kernel
theorem dX3_bestBut_48 : decode cX3_bestBut 48 = .ok (.iload 5, 2) := by decide +kernel
theorem dX3_bestBut_50 : decode cX3_bestBut 50 = .ok (.iaload, 1) := by decide +kernel
theorem dX3_bestBut_51 : decode cX3_bestBut 51 = .ok (.if_icmp .lt 7, 3) := by decide +kernel
theorem dX3_bestBut_54 : decode cX3_bestBut 54 = .ok (.iconst 1, 1) := by decide +kernel
theorem dX3_bestBut_55 : decode cX3_bestBut 55 = .ok (.goto 4, 3) := by decide +kernel
theorem dX3_bestBut_58 : decode cX3_bestBut 58 = .ok (.iconst 0, 1) := by decide +kernel
theorem dX3_bestBut_59 : decode cX3_bestBut 59 = .ok (.istore 6, 2) := by decide +kernel
theorem dX3_bestBut_61 : decode cX3_bestBut 61 = .ok (.iload_n 3, 1) := by decide +kernel
theorem dX3_bestBut_62 : decode cX3_bestBut 62 = .ok (.iconst (-1), 1) := by decide +kernel
theorem dX3_bestBut_63 : decode cX3_bestBut 63 = .ok (.if_icmp .eq 66, 3) := by decide +kernel
theorem dX3_bestBut_66 : decode cX3_bestBut 66 = .ok (.aload_n 0, 1) := by decide +kernel
theorem dX3_bestBut_67 : decode cX3_bestBut 67 = .ok (.getfield 37, 3) := by decide +kernel
theorem dX3_bestBut_70 : decode cX3_bestBut 70 = .ok (.iload 5, 2) := by decide +kernel
theorem dX3_bestBut_72 : decode cX3_bestBut 72 = .ok (.iaload, 1) := by decide +kernel
theorem dX3_bestBut_73 : decode cX3_bestBut 73 = .ok (.aload_n 0, 1) := by decide +kernel
theorem dX3_bestBut_74 : decode cX3_bestBut 74 = .ok (.getfield 37, 3) := by decide +kernel
theorem dX3_bestBut_77 : decode cX3_bestBut 77 = .ok (.bipush 6, 2) := by decide +kernel
theorem dX3_bestBut_79 : decode cX3_bestBut 79 = .ok (.iload_n 1, 1) := by decide +kernel
theorem dX3_bestBut_80 : decode cX3_bestBut 80 = .ok (.imul, 1) := by decide +kernel
theorem dX3_bestBut_81 : decode cX3_bestBut 81 = .ok (.iload_n 3, 1) := by decide +kernel
theorem dX3_bestBut_82 : decode cX3_bestBut 82 = .ok (.iadd, 1) := by decide +kernel
theorem dX3_bestBut_83 : decode cX3_bestBut 83 = .ok (.iaload, 1) := by decide +kernel
theorem dX3_bestBut_84 : decode cX3_bestBut 84 = .ok (.if_icmp .gt 45, 3) := by decide +kernel
theorem dX3_bestBut_87 : decode cX3_bestBut 87 = .ok (.aload_n 0, 1) := by decide +kernel
theorem dX3_bestBut_88 : decode cX3_bestBut 88 = .ok (.getfield 37, 3) := by decide +kernel
theorem dX3_bestBut_91 : decode cX3_bestBut 91 = .ok (.iload 5, 2) := by decide +kernel
theorem dX3_bestBut_93 : decode cX3_bestBut 93 = .ok (.iaload, 1) := by decide +kernel
theorem dX3_bestBut_94 : decode cX3_bestBut 94 = .ok (.aload_n 0, 1) := by decide +kernel
theorem dX3_bestBut_95 : decode cX3_bestBut 95 = .ok (.getfield 37, 3) := by decide +kernel
theorem dX3_bestBut_98 : decode cX3_bestBut 98 = .ok (.bipush 6, 2) := by decide +kernel
theorem dX3_bestBut_100 : decode cX3_bestBut 100 = .ok (.iload_n 1, 1) := by decide +kernel
theorem dX3_bestBut_101 : decode cX3_bestBut 101 = .ok (.imul, 1) := by decide +kernel
theorem dX3_bestBut_102 : decode cX3_bestBut 102 = .ok (.iload_n 3, 1) := by decide +kernel
theorem dX3_bestBut_103 : decode cX3_bestBut 103 = .ok (.iadd, 1) := by decide +kernel
theorem dX3_bestBut_104 : decode cX3_bestBut 104 = .ok (.iaload, 1) := by decide +kernel
theorem dX3_bestBut_105 : decode cX3_bestBut 105 = .ok (.if_icmp .ne 28, 3) := by decide +kernel
theorem dX3_bestBut_108 : decode cX3_bestBut 108 = .ok (.aload_n 0, 1) := by decide +kernel
theorem dX3_bestBut_109 : decode cX3_bestBut 109 = .ok (.getfield 40, 3) := by decide +kernel
theorem dX3_bestBut_112 : decode cX3_bestBut 112 = .ok (.iload 5, 2) := by decide +kernel
theorem dX3_bestBut_114 : decode cX3_bestBut 114 = .ok (.iaload, 1) := by decide +kernel
theorem dX3_bestBut_115 : decode cX3_bestBut 115 = .ok (.aload_n 0, 1) := by decide +kernel
theorem dX3_bestBut_116 : decode cX3_bestBut 116 = .ok (.getfield 40, 3) := by decide +kernel
theorem dX3_bestBut_119 : decode cX3_bestBut 119 = .ok (.bipush 6, 2) := by decide +kernel
theorem dX3_bestBut_121 : decode cX3_bestBut 121 = .ok (.iload_n 1, 1) := by decide +kernel
end
section
theorem dX3_bestBut_122 : decode cX3_bestBut 122 = .ok (.imul, 1) := by decide +kernel
theorem dX3_bestBut_123 : decode cX3_bestBut 123 = .ok (.iload_n 3, 1) := by decide +kernel
theorem dX3_bestBut_124 : decode cX3_bestBut 124 = .ok (.iadd, 1) := by decide +kernel
theorem dX3_bestBut_125 : decode cX3_bestBut 125 = .ok (.iaload, 1) := by decide +kernel
theorem dX3_bestBut_126 : decode cX3_bestBut 126 = .ok (.if_icmp .ge 7, 3) := by decide +kernel
theorem dX3_bestBut_129 : decode cX3_bestBut 129 = .ok (.iconst 1, 1) := by decide +kernel
theorem dX3_bestBut_130 : decode cX3_bestBut 130 = .ok (.goto 4, 3) := by decide +kernel
theorem dX3_bestBut_133 : decode cX3_bestBut 133 = .ok (.iconst 0, 1) := by decide +kernel
theorem dX3_bestBut_134 : decode cX3_bestBut 134 = .ok (.istore 7, 2) := by decide +kernel
theorem dX3_bestBut_136 : decode cX3_bestBut 136 = .ok (.iload 6, 2) := by decide +kernel
theorem dX3_bestBut_138 : decode cX3_bestBut 138 = .ok (.ifCond .eq 13, 3) := by decide +kernel
theorem dX3_bestBut_141 : decode cX3_bestBut 141 = .ok (.iload 7, 2) := by decide +kernel
theorem dX3_bestBut_143 : decode cX3_bestBut 143 = .ok (.ifCond .eq 8, 3) := by decide +kernel
theorem dX3_bestBut_146 : decode cX3_bestBut 146 = .ok (.iload 4, 2) := by decide +kernel
theorem dX3_bestBut_148 : decode cX3_bestBut 148 = .ok (.goto 4, 3) := by decide +kernel
theorem dX3_bestBut_151 : decode cX3_bestBut 151 = .ok (.iload_n 3, 1) := by decide +kernel
theorem dX3_bestBut_152 : decode cX3_bestBut 152 = .ok (.istore_n 3, 1) := by decide +kernel
theorem dX3_bestBut_153 : decode cX3_bestBut 153 = .ok (.iinc 4 1, 3) := by decide +kernel
theorem dX3_bestBut_156 : decode cX3_bestBut 156 = .ok (.goto (-151), 3) := by decide +kernel
theorem dX3_bestBut_159 : decode cX3_bestBut 159 = .ok (.iload_n 3, 1) := by decide +kernel
theorem dX3_bestBut_160 : decode cX3_bestBut 160 = .ok (.ireturn, 1) := by decide +kernel
theorem dX3_pays_0 : decode cX3_pays 0 = .ok (.aload_n 0, 1) := by decide +kernel
theorem dX3_pays_1 : decode cX3_pays 1 = .ok (.getfield 7, 3) := by decide +kernel
theorem dX3_pays_4 : decode cX3_pays 4 = .ok (.iload_n 1, 1) := by decide +kernel
theorem dX3_pays_5 : decode cX3_pays 5 = .ok (.dup2, 1) := by decide +kernel
theorem dX3_pays_6 : decode cX3_pays 6 = .ok (.iaload, 1) := by decide +kernel
theorem dX3_pays_7 : decode cX3_pays 7 = .ok (.iload_n 2, 1) := by decide +kernel
theorem dX3_pays_8 : decode cX3_pays 8 = .ok (.isub, 1) := by decide +kernel
theorem dX3_pays_9 : decode cX3_pays 9 = .ok (.iastore, 1) := by decide +kernel
theorem dX3_pays_10 : decode cX3_pays 10 = .ok (.aload_n 0, 1) := by decide +kernel
theorem dX3_pays_11 : decode cX3_pays 11 = .ok (.dup, 1) := by decide +kernel
theorem dX3_pays_12 : decode cX3_pays 12 = .ok (.getfield 77, 3) := by decide +kernel
theorem dX3_pays_15 : decode cX3_pays 15 = .ok (.iload_n 2, 1) := by decide +kernel
theorem dX3_pays_16 : decode cX3_pays 16 = .ok (.iadd, 1) := by decide +kernel
theorem dX3_pays_17 : decode cX3_pays 17 = .ok (.putfield 77, 3) := by decide +kernel
theorem dX3_pays_20 : decode cX3_pays 20 = .ok (.return_, 1) := by decide +kernel
set_option maxRecDepth 20000 in
theorem ggX3_closes_X3_bestBut : GoodIn wsX3_closes wsX3_bestBut := goodIn_r _ [7, 1, 8, 9, 28, 29, 30, 31, 32, 33, 34, 35, 36, 37, 38, 39, 40, 41, 42, 43, 44, 45] (by decide +kernel) (by decide +kernel)
set_option maxRecDepth 20000 in
theorem gX3_closes_X3_bestBut : GoodIn wsX3_closes (wsV RX3 80 RX3 yX3_bestBut wsX3_bestBut) := goodIn_app (goodIn_of _ (by decide +kernel)) ggX3_closes_X3_bestBut
set_option maxRecDepth 20000 in
theorem ggX3_closes_X3_clears : GoodIn wsX3_closes wsX3_clears := goodIn_r _ [13, 1, 28, 29, 30, 31, 32, 33, 34, 35, 36, 37, 38, 39, 40, 41, 42, 43, 44, 45] (by decide +kernel) (by decide +kernel)
set_option maxRecDepth 20000 in
theorem gX3_closes_X3_clears : GoodIn wsX3_closes (wsV RX3 84 RX3 yX3_clears wsX3_clears) := goodIn_app (goodIn_of _ (by decide +kernel)) ggX3_closes_X3_clears
set_option maxRecDepth 20000 in
theorem ggX3_closes_X3_pays : GoodIn wsX3_closes wsX3_pays := goodIn_r _ [17, 8, 18, 28, 29, 30, 31, 32, 33, 34, 35, 36, 37, 38, 39, 40, 41, 42, 43, 44, 45] (by decide +kernel) (by decide +kernel)
set_option maxRecDepth 20000 in
theorem gX3_closes_X3_pays : GoodIn wsX3_closes (wsV RX3 88 RX3 yX3_pays wsX3_pays) := goodIn_app (goodIn_of _ (by decide +kernel)) ggX3_closes_X3_pays
set_option maxRecDepth 20000 in
theorem ggX3_closes_X3_leases : GoodIn wsX3_closes wsX3_leases := goodIn_r _ [22, 2, 23, 24, 25, 26, 27, 28, 29, 30, 31, 32, 33, 34, 35, 36, 37, 38, 39, 40, 41, 42, 43, 44, 45] (by decide +kernel) (by decide +kernel)
set_option maxRecDepth 20000 in
theorem gX3_closes_X3_leases : GoodIn wsX3_closes (wsV RX3 92 RX3 yX3_leases wsX3_leases) := goodIn_app (goodIn_of _ (by decide +kernel)) ggX3_closes_X3_leases
theorem dX3_closes_0 : decode cX3_closes 0 = .ok (.aload_n 0, 1) := by decide +kernel
theorem dX3_closes_1 : decode cX3_closes 1 = .ok (.iload_n 1, 1) := by decide +kernel
theorem dX3_closes_2 : decode cX3_closes 2 = .ok (.iconst (-1), 1) := by decide +kernel
theorem dX3_closes_3 : decode cX3_closes 3 = .ok (.invokevirtual 80, 3) := by decide +kernel
theorem dX3_closes_6 : decode cX3_closes 6 = .ok (.istore_n 2, 1) := by decide +kernel
theorem dX3_closes_7 : decode cX3_closes 7 = .ok (.iload_n 2, 1) := by decide +kernel
theorem dX3_closes_8 : decode cX3_closes 8 = .ok (.iconst (-1), 1) := by decide +kernel
theorem dX3_closes_9 : decode cX3_closes 9 = .ok (.if_icmp .ne 7, 3) := by decide +kernel
theorem dX3_closes_12 : decode cX3_closes 12 = .ok (.iconst (-1), 1) := by decide +kernel
theorem dX3_closes_13 : decode cX3_closes 13 = .ok (.goto 9, 3) := by decide +kernel
theorem dX3_closes_16 : decode cX3_closes 16 = .ok (.aload_n 0, 1) := by decide +kernel
theorem dX3_closes_17 : decode cX3_closes 17 = .ok (.iload_n 1, 1) := by decide +kernel
theorem dX3_closes_18 : decode cX3_closes 18 = .ok (.iload_n 2, 1) := by decide +kernel
theorem dX3_closes_19 : decode cX3_closes 19 = .ok (.invokevirtual 80, 3) := by decide +kernel
theorem dX3_closes_22 : decode cX3_closes 22 = .ok (.istore_n 3, 1) := by decide +kernel
theorem dX3_closes_23 : decode cX3_closes 23 = .ok (.iload_n 3, 1) := by decide +kernel
theorem dX3_closes_24 : decode cX3_closes 24 = .ok (.iconst (-1), 1) := by decide +kernel
theorem dX3_closes_25 : decode cX3_closes 25 = .ok (.if_icmp .ne 8, 3) := by decide +kernel
theorem dX3_closes_28 : decode cX3_closes 28 = .ok (.bipush 10, 2) := by decide +kernel
theorem dX3_closes_30 : decode cX3_closes 30 = .ok (.goto 14, 3) := by decide +kernel
theorem dX3_closes_33 : decode cX3_closes 33 = .ok (.aload_n 0, 1) := by decide +kernel
theorem dX3_closes_34 : decode cX3_closes 34 = .ok (.getfield 37, 3) := by decide +kernel
theorem dX3_closes_37 : decode cX3_closes 37 = .ok (.bipush 6, 2) := by decide +kernel
theorem dX3_closes_39 : decode cX3_closes 39 = .ok (.iload_n 1, 1) := by decide +kernel
theorem dX3_closes_40 : decode cX3_closes 40 = .ok (.imul, 1) := by decide +kernel
theorem dX3_closes_41 : decode cX3_closes 41 = .ok (.iload_n 3, 1) := by decide +kernel
theorem dX3_closes_42 : decode cX3_closes 42 = .ok (.iadd, 1) := by decide +kernel
theorem dX3_closes_43 : decode cX3_closes 43 = .ok (.iaload, 1) := by decide +kernel
theorem dX3_closes_44 : decode cX3_closes 44 = .ok (.istore 4, 2) := by decide +kernel
theorem dX3_closes_46 : decode cX3_closes 46 = .ok (.aload_n 0, 1) := by decide +kernel
theorem dX3_closes_47 : decode cX3_closes 47 = .ok (.iload_n 1, 1) := by decide +kernel
theorem dX3_closes_48 : decode cX3_closes 48 = .ok (.invokevirtual 84, 3) := by decide +kernel
theorem dX3_closes_51 : decode cX3_closes 51 = .ok (.aload_n 0, 1) := by decide +kernel
theorem dX3_closes_52 : decode cX3_closes 52 = .ok (.getfield 13, 3) := by decide +kernel
theorem dX3_closes_55 : decode cX3_closes 55 = .ok (.iload_n 1, 1) := by decide +kernel
theorem dX3_closes_56 : decode cX3_closes 56 = .ok (.iconst 0, 1) := by decide +kernel
theorem dX3_closes_57 : decode cX3_closes 57 = .ok (.iastore, 1) := by decide +kernel
theorem dX3_closes_58 : decode cX3_closes 58 = .ok (.iload_n 2, 1) := by decide +kernel
theorem dX3_closes_59 : decode cX3_closes 59 = .ok (.iconst (-1), 1) := by decide +kernel
theorem dX3_closes_60 : decode cX3_closes 60 = .ok (.if_icmp .eq 16, 3) := by decide +kernel
theorem dX3_closes_63 : decode cX3_closes 63 = .ok (.aload_n 0, 1) := by decide +kernel
theorem dX3_closes_64 : decode cX3_closes 64 = .ok (.iload_n 2, 1) := by decide +kernel
theorem dX3_closes_65 : decode cX3_closes 65 = .ok (.iload 4, 2) := by decide +kernel
theorem dX3_closes_67 : decode cX3_closes 67 = .ok (.invokevirtual 88, 3) := by decide +kernel
theorem dX3_closes_70 : decode cX3_closes 70 = .ok (.aload_n 0, 1) := by decide +kernel
theorem dX3_closes_71 : decode cX3_closes 71 = .ok (.iload_n 1, 1) := by decide +kernel
theorem dX3_closes_72 : decode cX3_closes 72 = .ok (.iload_n 2, 1) := by decide +kernel
theorem dX3_closes_73 : decode cX3_closes 73 = .ok (.invokevirtual 92, 3) := by decide +kernel
theorem dX3_closes_76 : decode cX3_closes 76 = .ok (.iload_n 2, 1) := by decide +kernel
theorem dX3_closes_77 : decode cX3_closes 77 = .ok (.iconst (-1), 1) := by decide +kernel
theorem dX3_closes_78 : decode cX3_closes 78 = .ok (.if_icmp .ne 7, 3) := by decide +kernel
theorem dX3_closes_81 : decode cX3_closes 81 = .ok (.iconst 0, 1) := by decide +kernel
theorem dX3_closes_82 : decode cX3_closes 82 = .ok (.goto 4, 3) := by decide +kernel
theorem dX3_closes_85 : decode cX3_closes 85 = .ok (.iconst 1, 1) := by decide +kernel
theorem dX3_closes_86 : decode cX3_closes 86 = .ok (.ireturn, 1) := by decide +kernel
set_option maxRecDepth 20000 in
theorem ggX3_renew_X3_isName : GoodIn wsX3_renew wsX3_isName := goodIn_r _ [9, 10, 11, 8, 12] (by decide +kernel) (by decide +kernel)
set_option maxRecDepth 20000 in
theorem gX3_renew_X3_isName : GoodIn wsX3_renew (va_wsS RX3 68 yX3_isName wsX3_isName) := goodIn_app (goodIn_of _ (by decide +kernel)) ggX3_renew_X3_isName
set_option maxRecDepth 20000 in
theorem ggX3_renew_X3_isIn : GoodIn wsX3_renew wsX3_isIn := goodIn_r _ [12] (by decide +kernel) (by decide +kernel)
set_option maxRecDepth 20000 in
theorem gX3_renew_X3_isIn : GoodIn wsX3_renew (va_wsS RX3 56 yX3_isIn wsX3_isIn) := goodIn_app (goodIn_of _ (by decide +kernel)) ggX3_renew_X3_isIn
set_option maxRecDepth 20000 in
theorem ggX3_renew_X3_fails : GoodIn wsX3_renew wsX3_fails := goodIn_r _ [16, 17, 23, 24, 25, 26, 27, 28, 29, 30, 31, 32, 33, 34, 35, 36, 37, 38, 39, 40] (by decide +kernel) (by decide +kernel)
set_option maxRecDepth 20000 in
theorem gX3_renew_X3_fails : GoodIn wsX3_renew (wsV RX3 65 RX3 yX3_fails wsX3_fails) := goodIn_app (goodIn_of _ (by decide +kernel)) ggX3_renew_X3_fails
set_option maxRecDepth 20000 in
theorem ggX3_renew_X3_pays : GoodIn wsX3_renew wsX3_pays := goodIn_r _ [21, 4, 22, 23, 24, 25, 26, 27, 28, 29, 30, 31, 32, 33, 34, 35, 36, 37, 38, 39, 40] (by decide +kernel) (by decide +kernel)
set_option maxRecDepth 20000 in
theorem gX3_renew_X3_pays : GoodIn wsX3_renew (wsV RX3 88 RX3 yX3_pays wsX3_pays) := goodIn_app (goodIn_of _ (by decide +kernel)) ggX3_renew_X3_pays
theorem dX3_renew_0 : decode cX3_renew 0 = .ok (.iload_n 1, 1) := by decide +kernel
theorem dX3_renew_1 : decode cX3_renew 1 = .ok (.invokestatic 68, 3) := by decide +kernel
theorem dX3_renew_4 : decode cX3_renew 4 = .ok (.istore_n 3, 1) := by decide +kernel
theorem dX3_renew_5 : decode cX3_renew 5 = .ok (.iload_n 2, 1) := by decide +kernel
theorem dX3_renew_6 : decode cX3_renew 6 = .ok (.iconst 1, 1) := by decide +kernel
theorem dX3_renew_7 : decode cX3_renew 7 = .ok (.iconst 5, 1) := by decide +kernel
theorem dX3_renew_8 : decode cX3_renew 8 = .ok (.invokestatic 56, 3) := by decide +kernel
theorem dX3_renew_11 : decode cX3_renew 11 = .ok (.istore 4, 2) := by decide +kernel
theorem dX3_renew_13 : decode cX3_renew 13 = .ok (.iload_n 3, 1) := by decide +kernel
theorem dX3_renew_14 : decode cX3_renew 14 = .ok (.ifCond .eq 66, 3) := by decide +kernel
theorem dX3_renew_17 : decode cX3_renew 17 = .ok (.iload 4, 2) := by decide +kernel
theorem dX3_renew_19 : decode cX3_renew 19 = .ok (.ifCond .eq 61, 3) := by decide +kernel
theorem dX3_renew_22 : decode cX3_renew 22 = .ok (.aload_n 0, 1) := by decide +kernel
theorem dX3_renew_23 : decode cX3_renew 23 = .ok (.getfield 13, 3) := by decide +kernel
theorem dX3_renew_26 : decode cX3_renew 26 = .ok (.iload_n 1, 1) := by decide +kernel
theorem dX3_renew_27 : decode cX3_renew 27 = .ok (.iaload, 1) := by decide +kernel
theorem dX3_renew_28 : decode cX3_renew 28 = .ok (.iconst 2, 1) := by decide +kernel
theorem dX3_renew_29 : decode cX3_renew 29 = .ok (.iconst 3, 1) := by decide +kernel
theorem dX3_renew_30 : decode cX3_renew 30 = .ok (.invokestatic 56, 3) := by decide +kernel
theorem dX3_renew_33 : decode cX3_renew 33 = .ok (.ifCond .eq 47, 3) := by decide +kernel
theorem dX3_renew_36 : decode cX3_renew 36 = .ok (.aload_n 0, 1) := by decide +kernel
theorem dX3_renew_37 : decode cX3_renew 37 = .ok (.getfield 19, 3) := by decide +kernel
theorem dX3_renew_40 : decode cX3_renew 40 = .ok (.iload_n 1, 1) := by decide +kernel
theorem dX3_renew_41 : decode cX3_renew 41 = .ok (.iaload, 1) := by decide +kernel
theorem dX3_renew_42 : decode cX3_renew 42 = .ok (.bipush 100, 2) := by decide +kernel
theorem dX3_renew_44 : decode cX3_renew 44 = .ok (.iload_n 2, 1) := by decide +kernel
theorem dX3_renew_45 : decode cX3_renew 45 = .ok (.imul, 1) := by decide +kernel
theorem dX3_renew_46 : decode cX3_renew 46 = .ok (.iadd, 1) := by decide +kernel
theorem dX3_renew_47 : decode cX3_renew 47 = .ok (.aload_n 0, 1) := by decide +kernel
theorem dX3_renew_48 : decode cX3_renew 48 = .ok (.getfield 71, 3) := by decide +kernel
theorem dX3_renew_51 : decode cX3_renew 51 = .ok (.sipush 600, 3) := by decide +kernel
theorem dX3_renew_54 : decode cX3_renew 54 = .ok (.iadd, 1) := by decide +kernel
theorem dX3_renew_55 : decode cX3_renew 55 = .ok (.if_icmp .gt 25, 3) := by decide +kernel
theorem dX3_renew_58 : decode cX3_renew 58 = .ok (.aload_n 0, 1) := by decide +kernel
theorem dX3_renew_59 : decode cX3_renew 59 = .ok (.getfield 7, 3) := by decide +kernel
theorem dX3_renew_62 : decode cX3_renew 62 = .ok (.aload_n 0, 1) := by decide +kernel
theorem dX3_renew_63 : decode cX3_renew 63 = .ok (.getfield 16, 3) := by decide +kernel
theorem dX3_renew_66 : decode cX3_renew 66 = .ok (.iload_n 1, 1) := by decide +kernel
theorem dX3_renew_67 : decode cX3_renew 67 = .ok (.iaload, 1) := by decide +kernel
theorem dX3_renew_68 : decode cX3_renew 68 = .ok (.iaload, 1) := by decide +kernel
theorem dX3_renew_69 : decode cX3_renew 69 = .ok (.bipush 20, 2) := by decide +kernel
theorem dX3_renew_71 : decode cX3_renew 71 = .ok (.iload_n 2, 1) := by decide +kernel
theorem dX3_renew_72 : decode cX3_renew 72 = .ok (.imul, 1) := by decide +kernel
theorem dX3_renew_73 : decode cX3_renew 73 = .ok (.if_icmp .lt 7, 3) := by decide +kernel
theorem dX3_renew_76 : decode cX3_renew 76 = .ok (.iconst 1, 1) := by decide +kernel
theorem dX3_renew_77 : decode cX3_renew 77 = .ok (.goto 4, 3) := by decide +kernel
theorem dX3_renew_80 : decode cX3_renew 80 = .ok (.iconst 0, 1) := by decide +kernel
theorem dX3_renew_81 : decode cX3_renew 81 = .ok (.istore 5, 2) := by decide +kernel
theorem dX3_renew_83 : decode cX3_renew 83 = .ok (.aload_n 0, 1) := by decide +kernel
theorem dX3_renew_84 : decode cX3_renew 84 = .ok (.iload_n 3, 1) := by decide +kernel
theorem dX3_renew_85 : decode cX3_renew 85 = .ok (.ifCond .ne 7, 3) := by decide +kernel
theorem dX3_renew_88 : decode cX3_renew 88 = .ok (.iconst 1, 1) := by decide +kernel
theorem dX3_renew_89 : decode cX3_renew 89 = .ok (.goto 22, 3) := by decide +kernel
theorem dX3_renew_92 : decode cX3_renew 92 = .ok (.iload 4, 2) := by decide +kernel
theorem dX3_renew_94 : decode cX3_renew 94 = .ok (.ifCond .ne 7, 3) := by decide +kernel
theorem dX3_renew_97 : decode cX3_renew 97 = .ok (.iconst 2, 1) := by decide +kernel
theorem dX3_renew_98 : decode cX3_renew 98 = .ok (.goto 13, 3) := by decide +kernel
theorem dX3_renew_101 : decode cX3_renew 101 = .ok (.iload 5, 2) := by decide +kernel
theorem dX3_renew_103 : decode cX3_renew 103 = .ok (.ifCond .eq 7, 3) := by decide +kernel
theorem dX3_renew_106 : decode cX3_renew 106 = .ok (.iconst 0, 1) := by decide +kernel
theorem dX3_renew_107 : decode cX3_renew 107 = .ok (.goto 4, 3) := by decide +kernel
theorem dX3_renew_110 : decode cX3_renew 110 = .ok (.iconst 3, 1) := by decide +kernel
theorem dX3_renew_111 : decode cX3_renew 111 = .ok (.invokevirtual 65, 3) := by decide +kernel
theorem dX3_renew_114 : decode cX3_renew 114 = .ok (.ifCond .eq 5, 3) := by decide +kernel
theorem dX3_renew_117 : decode cX3_renew 117 = .ok (.iconst 0, 1) := by decide +kernel
theorem dX3_renew_118 : decode cX3_renew 118 = .ok (.ireturn, 1) := by decide +kernel
theorem dX3_renew_119 : decode cX3_renew 119 = .ok (.aload_n 0, 1) := by decide +kernel
theorem dX3_renew_120 : decode cX3_renew 120 = .ok (.aload_n 0, 1) := by decide +kernel
theorem dX3_renew_121 : decode cX3_renew 121 = .ok (.getfield 16, 3) := by decide +kernel
theorem dX3_renew_124 : decode cX3_renew 124 = .ok (.iload_n 1, 1) := by decide +kernel
theorem dX3_renew_125 : decode cX3_renew 125 = .ok (.iaload, 1) := by decide +kernel
theorem dX3_renew_126 : decode cX3_renew 126 = .ok (.bipush 20, 2) := by decide +kernel
theorem dX3_renew_128 : decode cX3_renew 128 = .ok (.iload_n 2, 1) := by decide +kernel
theorem dX3_renew_129 : decode cX3_renew 129 = .ok (.imul, 1) := by decide +kernel
theorem dX3_renew_130 : decode cX3_renew 130 = .ok (.invokevirtual 88, 3) := by decide +kernel
theorem dX3_renew_133 : decode cX3_renew 133 = .ok (.aload_n 0, 1) := by decide +kernel
theorem dX3_renew_134 : decode cX3_renew 134 = .ok (.getfield 19, 3) := by decide +kernel
theorem dX3_renew_137 : decode cX3_renew 137 = .ok (.iload_n 1, 1) := by decide +kernel
theorem dX3_renew_138 : decode cX3_renew 138 = .ok (.dup2, 1) := by decide +kernel
theorem dX3_renew_139 : decode cX3_renew 139 = .ok (.iaload, 1) := by decide +kernel
theorem dX3_renew_140 : decode cX3_renew 140 = .ok (.bipush 100, 2) := by decide +kernel
theorem dX3_renew_142 : decode cX3_renew 142 = .ok (.iload_n 2, 1) := by decide +kernel
theorem dX3_renew_143 : decode cX3_renew 143 = .ok (.imul, 1) := by decide +kernel
theorem dX3_renew_144 : decode cX3_renew 144 = .ok (.iadd, 1) := by decide +kernel
theorem dX3_renew_145 : decode cX3_renew 145 = .ok (.iastore, 1) := by decide +kernel
theorem dX3_renew_146 : decode cX3_renew 146 = .ok (.aload_n 0, 1) := by decide +kernel
theorem dX3_renew_147 : decode cX3_renew 147 = .ok (.getfield 13, 3) := by decide +kernel
theorem dX3_renew_150 : decode cX3_renew 150 = .ok (.iload_n 1, 1) := by decide +kernel
theorem dX3_renew_151 : decode cX3_renew 151 = .ok (.iconst 2, 1) := by decide +kernel
theorem dX3_renew_152 : decode cX3_renew 152 = .ok (.iastore, 1) := by decide +kernel
theorem dX3_renew_153 : decode cX3_renew 153 = .ok (.aload_n 0, 1) := by decide +kernel
theorem dX3_renew_154 : decode cX3_renew 154 = .ok (.getfield 19, 3) := by decide +kernel
theorem dX3_renew_157 : decode cX3_renew 157 = .ok (.iload_n 1, 1) := by decide +kernel
theorem dX3_renew_158 : decode cX3_renew 158 = .ok (.iaload, 1) := by decide +kernel
theorem dX3_renew_159 : decode cX3_renew 159 = .ok (.ireturn, 1) := by decide +kernel
set_option maxRecDepth 20000 in
theorem ggX3_redeem_X3_isName : GoodIn wsX3_redeem wsX3_isName := goodIn_r _ [8, 9, 10, 7, 11] (by decide +kernel) (by decide +kernel)
set_option maxRecDepth 20000 in
theorem gX3_redeem_X3_isName : GoodIn wsX3_redeem (va_wsS RX3 68 yX3_isName wsX3_isName) := goodIn_app (goodIn_of _ (by decide +kernel)) ggX3_redeem_X3_isName
set_option maxRecDepth 20000 in
theorem ggX3_redeem_X3_fails : GoodIn wsX3_redeem wsX3_fails := goodIn_r _ [15, 16, 29, 30, 31, 32, 33, 34, 35, 36, 37, 38, 39, 40, 41, 42, 43, 44, 45, 46] (by decide +kernel) (by decide +kernel)
set_option maxRecDepth 20000 in
theorem gX3_redeem_X3_fails : GoodIn wsX3_redeem (wsV RX3 65 RX3 yX3_fails wsX3_fails) := goodIn_app (goodIn_of _ (by decide +kernel)) ggX3_redeem_X3_fails
set_option maxRecDepth 20000 in
theorem ggX3_redeem_X3_pays : GoodIn wsX3_redeem wsX3_pays := goodIn_r _ [20, 2, 21, 29, 30, 31, 32, 33, 34, 35, 36, 37, 38, 39, 40, 41, 42, 43, 44, 45, 46] (by decide +kernel) (by decide +kernel)
set_option maxRecDepth 20000 in
theorem gX3_redeem_X3_pays : GoodIn wsX3_redeem (wsV RX3 88 RX3 yX3_pays wsX3_pays) := goodIn_app (goodIn_of _ (by decide +kernel)) ggX3_redeem_X3_pays
set_option maxRecDepth 20000 in
theorem ggX3_redeem_X3_leases : GoodIn wsX3_redeem wsX3_leases := goodIn_r _ [25, 1, 3, 4, 26, 27, 28, 29, 30, 31, 32, 33, 34, 35, 36, 37, 38, 39, 40, 41, 42, 43, 44, 45, 46] (by decide +kernel) (by decide +kernel)
set_option maxRecDepth 20000 in
theorem gX3_redeem_X3_leases : GoodIn wsX3_redeem (wsV RX3 92 RX3 yX3_leases wsX3_leases) := goodIn_app (goodIn_of _ (by decide +kernel)) ggX3_redeem_X3_leases
theorem dX3_redeem_0 : decode cX3_redeem 0 = .ok (.iload_n 1, 1) := by decide +kernel
theorem dX3_redeem_1 : decode cX3_redeem 1 = .ok (.invokestatic 68, 3) := by decide +kernel
theorem dX3_redeem_4 : decode cX3_redeem 4 = .ok (.istore_n 2, 1) := by decide +kernel
theorem dX3_redeem_5 : decode cX3_redeem 5 = .ok (.iload_n 2, 1) := by decide +kernel
theorem dX3_redeem_6 : decode cX3_redeem 6 = .ok (.ifCond .eq 33, 3) := by decide +kernel
theorem dX3_redeem_9 : decode cX3_redeem 9 = .ok (.aload_n 0, 1) := by decide +kernel
theorem dX3_redeem_10 : decode cX3_redeem 10 = .ok (.getfield 13, 3) := by decide +kernel
theorem dX3_redeem_13 : decode cX3_redeem 13 = .ok (.iload_n 1, 1) := by decide +kernel
theorem dX3_redeem_14 : decode cX3_redeem 14 = .ok (.iaload, 1) := by decide +kernel
theorem dX3_redeem_15 : decode cX3_redeem 15 = .ok (.iconst 4, 1) := by decide +kernel
theorem dX3_redeem_16 : decode cX3_redeem 16 = .ok (.if_icmp .ne 23, 3) := by decide +kernel
theorem dX3_redeem_19 : decode cX3_redeem 19 = .ok (.aload_n 0, 1) := by decide +kernel
theorem dX3_redeem_20 : decode cX3_redeem 20 = .ok (.getfield 7, 3) := by decide +kernel
theorem dX3_redeem_23 : decode cX3_redeem 23 = .ok (.aload_n 0, 1) := by decide +kernel
theorem dX3_redeem_24 : decode cX3_redeem 24 = .ok (.getfield 16, 3) := by decide +kernel
theorem dX3_redeem_27 : decode cX3_redeem 27 = .ok (.iload_n 1, 1) := by decide +kernel
theorem dX3_redeem_28 : decode cX3_redeem 28 = .ok (.iaload, 1) := by decide +kernel
theorem dX3_redeem_29 : decode cX3_redeem 29 = .ok (.iaload, 1) := by decide +kernel
theorem dX3_redeem_30 : decode cX3_redeem 30 = .ok (.bipush 50, 2) := by decide +kernel
theorem dX3_redeem_32 : decode cX3_redeem 32 = .ok (.if_icmp .lt 7, 3) := by decide +kernel
theorem dX3_redeem_35 : decode cX3_redeem 35 = .ok (.iconst 1, 1) := by decide +kernel
theorem dX3_redeem_36 : decode cX3_redeem 36 = .ok (.goto 4, 3) := by decide +kernel
theorem dX3_redeem_39 : decode cX3_redeem 39 = .ok (.iconst 0, 1) := by decide +kernel
theorem dX3_redeem_40 : decode cX3_redeem 40 = .ok (.istore_n 3, 1) := by decide +kernel
theorem dX3_redeem_41 : decode cX3_redeem 41 = .ok (.aload_n 0, 1) := by decide +kernel
theorem dX3_redeem_42 : decode cX3_redeem 42 = .ok (.iload_n 2, 1) := by decide +kernel
theorem dX3_redeem_43 : decode cX3_redeem 43 = .ok (.ifCond .ne 7, 3) := by decide +kernel
theorem dX3_redeem_46 : decode cX3_redeem 46 = .ok (.iconst 1, 1) := by decide +kernel
theorem dX3_redeem_47 : decode cX3_redeem 47 = .ok (.goto 12, 3) := by decide +kernel
theorem dX3_redeem_50 : decode cX3_redeem 50 = .ok (.iload_n 3, 1) := by decide +kernel
theorem dX3_redeem_51 : decode cX3_redeem 51 = .ok (.ifCond .eq 7, 3) := by decide +kernel
theorem dX3_redeem_54 : decode cX3_redeem 54 = .ok (.iconst 0, 1) := by decide +kernel
theorem dX3_redeem_55 : decode cX3_redeem 55 = .ok (.goto 4, 3) := by decide +kernel
theorem dX3_redeem_58 : decode cX3_redeem 58 = .ok (.iconst 2, 1) := by decide +kernel
theorem dX3_redeem_59 : decode cX3_redeem 59 = .ok (.invokevirtual 65, 3) := by decide +kernel
theorem dX3_redeem_62 : decode cX3_redeem 62 = .ok (.ifCond .eq 5, 3) := by decide +kernel
theorem dX3_redeem_65 : decode cX3_redeem 65 = .ok (.iconst 0, 1) := by decide +kernel
theorem dX3_redeem_66 : decode cX3_redeem 66 = .ok (.ireturn, 1) := by decide +kernel
theorem dX3_redeem_67 : decode cX3_redeem 67 = .ok (.aload_n 0, 1) := by decide +kernel
theorem dX3_redeem_68 : decode cX3_redeem 68 = .ok (.aload_n 0, 1) := by decide +kernel
theorem dX3_redeem_69 : decode cX3_redeem 69 = .ok (.getfield 16, 3) := by decide +kernel
theorem dX3_redeem_72 : decode cX3_redeem 72 = .ok (.iload_n 1, 1) := by decide +kernel
theorem dX3_redeem_73 : decode cX3_redeem 73 = .ok (.iaload, 1) := by decide +kernel
theorem dX3_redeem_74 : decode cX3_redeem 74 = .ok (.bipush 50, 2) := by decide +kernel
theorem dX3_redeem_76 : decode cX3_redeem 76 = .ok (.invokevirtual 88, 3) := by decide +kernel
theorem dX3_redeem_79 : decode cX3_redeem 79 = .ok (.aload_n 0, 1) := by decide +kernel
theorem dX3_redeem_80 : decode cX3_redeem 80 = .ok (.iload_n 1, 1) := by decide +kernel
theorem dX3_redeem_81 : decode cX3_redeem 81 = .ok (.aload_n 0, 1) := by decide +kernel
theorem dX3_redeem_82 : decode cX3_redeem 82 = .ok (.getfield 16, 3) := by decide +kernel
theorem dX3_redeem_85 : decode cX3_redeem 85 = .ok (.iload_n 1, 1) := by decide +kernel
theorem dX3_redeem_86 : decode cX3_redeem 86 = .ok (.iaload, 1) := by decide +kernel
theorem dX3_redeem_87 : decode cX3_redeem 87 = .ok (.invokevirtual 92, 3) := by decide +kernel
theorem dX3_redeem_90 : decode cX3_redeem 90 = .ok (.aload_n 0, 1) := by decide +kernel
theorem dX3_redeem_91 : decode cX3_redeem 91 = .ok (.getfield 19, 3) := by decide +kernel
theorem dX3_redeem_94 : decode cX3_redeem 94 = .ok (.iload_n 1, 1) := by decide +kernel
theorem dX3_redeem_95 : decode cX3_redeem 95 = .ok (.iaload, 1) := by decide +kernel
theorem dX3_redeem_96 : decode cX3_redeem 96 = .ok (.ireturn, 1) := by decide +kernel
set_option maxRecDepth 20000 in
theorem ggX3_setRecord_X3_isName : GoodIn wsX3_setRecord wsX3_isName := goodIn_r _ [7, 8, 9, 6, 10] (by decide +kernel) (by decide +kernel)
set_option maxRecDepth 20000 in
theorem gX3_setRecord_X3_isName : GoodIn wsX3_setRecord (va_wsS RX3 68 yX3_isName wsX3_isName) := goodIn_app (goodIn_of _ (by decide +kernel)) ggX3_setRecord_X3_isName
set_option maxRecDepth 20000 in
theorem ggX3_setRecord_X3_isIn : GoodIn wsX3_setRecord wsX3_isIn := goodIn_r _ [10] (by decide +kernel) (by decide +kernel)
set_option maxRecDepth 20000 in
theorem gX3_setRecord_X3_isIn : GoodIn wsX3_setRecord (va_wsS RX3 56 yX3_isIn wsX3_isIn) := goodIn_app (goodIn_of _ (by decide +kernel)) ggX3_setRecord_X3_isIn
set_option maxRecDepth 20000 in
theorem ggX3_setRecord_X3_fails : GoodIn wsX3_setRecord wsX3_fails := goodIn_r _ [14, 15, 16, 17, 18, 19, 20, 21, 22, 23, 24, 25, 26, 27, 28, 29, 30, 31, 32, 33] (by decide +kernel) (by decide +kernel)
set_option maxRecDepth 20000 in
theorem gX3_setRecord_X3_fails : GoodIn wsX3_setRecord (wsV RX3 65 RX3 yX3_fails wsX3_fails) := goodIn_app (goodIn_of _ (by decide +kernel)) ggX3_setRecord_X3_fails
theorem dX3_setRecord_0 : decode cX3_setRecord 0 = .ok (.iload_n 1, 1) := by decide +kernel
theorem dX3_setRecord_1 : decode cX3_setRecord 1 = .ok (.invokestatic 68, 3) := by decide +kernel
theorem dX3_setRecord_4 : decode cX3_setRecord 4 = .ok (.istore 4, 2) := by decide +kernel
theorem dX3_setRecord_6 : decode cX3_setRecord 6 = .ok (.iload_n 2, 1) := by decide +kernel
theorem dX3_setRecord_7 : decode cX3_setRecord 7 = .ok (.iconst 0, 1) := by decide +kernel
theorem dX3_setRecord_8 : decode cX3_setRecord 8 = .ok (.sipush 999, 3) := by decide +kernel
theorem dX3_setRecord_11 : decode cX3_setRecord 11 = .ok (.invokestatic 56, 3) := by decide +kernel
theorem dX3_setRecord_14 : decode cX3_setRecord 14 = .ok (.ifCond .eq 17, 3) := by decide +kernel
theorem dX3_setRecord_17 : decode cX3_setRecord 17 = .ok (.iload_n 3, 1) := by decide +kernel
theorem dX3_setRecord_18 : decode cX3_setRecord 18 = .ok (.iconst 1, 1) := by decide +kernel
theorem dX3_setRecord_19 : decode cX3_setRecord 19 = .ok (.bipush 50, 2) := by decide +kernel
theorem dX3_setRecord_21 : decode cX3_setRecord 21 = .ok (.invokestatic 56, 3) := by decide +kernel
theorem dX3_setRecord_24 : decode cX3_setRecord 24 = .ok (.ifCond .eq 7, 3) := by decide +kernel
theorem dX3_setRecord_27 : decode cX3_setRecord 27 = .ok (.iconst 1, 1) := by decide +kernel
theorem dX3_setRecord_28 : decode cX3_setRecord 28 = .ok (.goto 4, 3) := by decide +kernel
theorem dX3_setRecord_31 : decode cX3_setRecord 31 = .ok (.iconst 0, 1) := by decide +kernel
theorem dX3_setRecord_32 : decode cX3_setRecord 32 = .ok (.istore 5, 2) := by decide +kernel
theorem dX3_setRecord_34 : decode cX3_setRecord 34 = .ok (.aload_n 0, 1) := by decide +kernel
theorem dX3_setRecord_35 : decode cX3_setRecord 35 = .ok (.iload 4, 2) := by decide +kernel
theorem dX3_setRecord_37 : decode cX3_setRecord 37 = .ok (.ifCond .ne 7, 3) := by decide +kernel
theorem dX3_setRecord_40 : decode cX3_setRecord 40 = .ok (.iconst 1, 1) := by decide +kernel
theorem dX3_setRecord_41 : decode cX3_setRecord 41 = .ok (.goto 27, 3) := by decide +kernel
theorem dX3_setRecord_44 : decode cX3_setRecord 44 = .ok (.iload 5, 2) := by decide +kernel
theorem dX3_setRecord_46 : decode cX3_setRecord 46 = .ok (.ifCond .ne 7, 3) := by decide +kernel
theorem dX3_setRecord_49 : decode cX3_setRecord 49 = .ok (.iconst 2, 1) := by decide +kernel
theorem dX3_setRecord_50 : decode cX3_setRecord 50 = .ok (.goto 18, 3) := by decide +kernel
theorem dX3_setRecord_53 : decode cX3_setRecord 53 = .ok (.aload_n 0, 1) := by decide +kernel
theorem dX3_setRecord_54 : decode cX3_setRecord 54 = .ok (.getfield 13, 3) := by decide +kernel
theorem dX3_setRecord_57 : decode cX3_setRecord 57 = .ok (.iload_n 1, 1) := by decide +kernel
theorem dX3_setRecord_58 : decode cX3_setRecord 58 = .ok (.iaload, 1) := by decide +kernel
theorem dX3_setRecord_59 : decode cX3_setRecord 59 = .ok (.iconst 2, 1) := by decide +kernel
theorem dX3_setRecord_60 : decode cX3_setRecord 60 = .ok (.if_icmp .ne 7, 3) := by decide +kernel
theorem dX3_setRecord_63 : decode cX3_setRecord 63 = .ok (.iconst 0, 1) := by decide +kernel
theorem dX3_setRecord_64 : decode cX3_setRecord 64 = .ok (.goto 4, 3) := by decide +kernel
theorem dX3_setRecord_67 : decode cX3_setRecord 67 = .ok (.iconst 3, 1) := by decide +kernel
theorem dX3_setRecord_68 : decode cX3_setRecord 68 = .ok (.invokevirtual 65, 3) := by decide +kernel
theorem dX3_setRecord_71 : decode cX3_setRecord 71 = .ok (.ifCond .eq 5, 3) := by decide +kernel
theorem dX3_setRecord_74 : decode cX3_setRecord 74 = .ok (.iconst 0, 1) := by decide +kernel
theorem dX3_setRecord_75 : decode cX3_setRecord 75 = .ok (.ireturn, 1) := by decide +kernel
theorem dX3_setRecord_76 : decode cX3_setRecord 76 = .ok (.aload_n 0, 1) := by decide +kernel
theorem dX3_setRecord_77 : decode cX3_setRecord 77 = .ok (.getfield 22, 3) := by decide +kernel
theorem dX3_setRecord_80 : decode cX3_setRecord 80 = .ok (.iload_n 1, 1) := by decide +kernel
theorem dX3_setRecord_81 : decode cX3_setRecord 81 = .ok (.iaload, 1) := by decide +kernel
theorem dX3_setRecord_82 : decode cX3_setRecord 82 = .ok (.istore 6, 2) := by decide +kernel
theorem dX3_setRecord_84 : decode cX3_setRecord 84 = .ok (.aload_n 0, 1) := by decide +kernel
theorem dX3_setRecord_85 : decode cX3_setRecord 85 = .ok (.getfield 22, 3) := by decide +kernel
theorem dX3_setRecord_88 : decode cX3_setRecord 88 = .ok (.iload_n 1, 1) := by decide +kernel
theorem dX3_setRecord_89 : decode cX3_setRecord 89 = .ok (.iload_n 2, 1) := by decide +kernel
theorem dX3_setRecord_90 : decode cX3_setRecord 90 = .ok (.iastore, 1) := by decide +kernel
theorem dX3_setRecord_91 : decode cX3_setRecord 91 = .ok (.aload_n 0, 1) := by decide +kernel
theorem dX3_setRecord_92 : decode cX3_setRecord 92 = .ok (.getfield 25, 3) := by decide +kernel
theorem dX3_setRecord_95 : decode cX3_setRecord 95 = .ok (.iload_n 1, 1) := by decide +kernel
theorem dX3_setRecord_96 : decode cX3_setRecord 96 = .ok (.iload_n 3, 1) := by decide +kernel
theorem dX3_setRecord_97 : decode cX3_setRecord 97 = .ok (.iastore, 1) := by decide +kernel
theorem dX3_setRecord_98 : decode cX3_setRecord 98 = .ok (.iload 6, 2) := by decide +kernel
theorem dX3_setRecord_100 : decode cX3_setRecord 100 = .ok (.ireturn, 1) := by decide +kernel
set_option maxRecDepth 20000 in
theorem ggX3_state_X3_isName : GoodIn wsX3_state wsX3_isName := goodIn_r _ [5, 6, 7, 4, 8] (by decide +kernel) (by decide +kernel)
set_option maxRecDepth 20000 in
theorem gX3_state_X3_isName : GoodIn wsX3_state (va_wsS RX3 68 yX3_isName wsX3_isName) := goodIn_app (goodIn_of _ (by decide +kernel)) ggX3_state_X3_isName
set_option maxRecDepth 20000 in
theorem ggX3_state_X3_fails : GoodIn wsX3_state wsX3_fails := goodIn_r _ [12, 13, 14, 15, 16, 17, 18, 19, 20, 21, 22, 23, 24, 25, 26, 27, 28, 29, 30, 31] (by decide +kernel) (by decide +kernel)
set_option maxRecDepth 20000 in
theorem gX3_state_X3_fails : GoodIn wsX3_state (wsV RX3 65 RX3 yX3_fails wsX3_fails) := goodIn_app (goodIn_of _ (by decide +kernel)) ggX3_state_X3_fails
theorem dX3_state_0 : decode cX3_state 0 = .ok (.aload_n 0, 1) := by decide +kernel
theorem dX3_state_1 : decode cX3_state 1 = .ok (.iload_n 1, 1) := by decide +kernel
theorem dX3_state_2 : decode cX3_state 2 = .ok (.invokestatic 68, 3) := by decide +kernel
theorem dX3_state_5 : decode cX3_state 5 = .ok (.ifCond .eq 7, 3) := by decide +kernel
theorem dX3_state_8 : decode cX3_state 8 = .ok (.iconst 0, 1) := by decide +kernel
theorem dX3_state_9 : decode cX3_state 9 = .ok (.goto 4, 3) := by decide +kernel
theorem dX3_state_12 : decode cX3_state 12 = .ok (.iconst 1, 1) := by decide +kernel
theorem dX3_state_13 : decode cX3_state 13 = .ok (.invokevirtual 65, 3) := by decide +kernel
theorem dX3_state_16 : decode cX3_state 16 = .ok (.ifCond .eq 7, 3) := by decide +kernel
theorem dX3_state_19 : decode cX3_state 19 = .ok (.iconst 0, 1) := by decide +kernel
theorem dX3_state_20 : decode cX3_state 20 = .ok (.goto 9, 3) := by decide +kernel
theorem dX3_state_23 : decode cX3_state 23 = .ok (.aload_n 0, 1) := by decide +kernel
theorem dX3_state_24 : decode cX3_state 24 = .ok (.getfield 13, 3) := by decide +kernel
theorem dX3_state_27 : decode cX3_state 27 = .ok (.iload_n 1, 1) := by decide +kernel
theorem dX3_state_28 : decode cX3_state 28 = .ok (.iaload, 1) := by decide +kernel
theorem dX3_state_29 : decode cX3_state 29 = .ok (.ireturn, 1) := by decide +kernel
theorem dX3_letter_0 : decode cX3_letter 0 = .ok (.iload_n 0, 1) := by decide +kernel
theorem dX3_letter_1 : decode cX3_letter 1 = .ok (.tableswitch 350 0 4 #[35, 67, 140, 197, 249], 35) := by decide +kernel
theorem dX3_letter_36 : decode cX3_letter 36 = .ok (.iload_n 1, 1) := by decide +kernel
theorem dX3_letter_37 : decode cX3_letter 37 = .ok (.ifCond .ne 8, 3) := by decide +kernel
theorem dX3_letter_40 : decode cX3_letter 40 = .ok (.bipush 102, 2) := by decide +kernel
theorem dX3_letter_42 : decode cX3_letter 42 = .ok (.goto 25, 3) := by decide +kernel
theorem dX3_letter_45 : decode cX3_letter 45 = .ok (.iload_n 1, 1) := by decide +kernel
theorem dX3_letter_46 : decode cX3_letter 46 = .ok (.iconst 1, 1) := by decide +kernel
theorem dX3_letter_47 : decode cX3_letter 47 = .ok (.if_icmp .ne 8, 3) := by decide +kernel
theorem dX3_letter_50 : decode cX3_letter 50 = .ok (.bipush 114, 2) := by decide +kernel
theorem dX3_letter_52 : decode cX3_letter 52 = .ok (.goto 15, 3) := by decide +kernel
theorem dX3_letter_55 : decode cX3_letter 55 = .ok (.iload_n 1, 1) := by decide +kernel
theorem dX3_letter_56 : decode cX3_letter 56 = .ok (.iconst 4, 1) := by decide +kernel
theorem dX3_letter_57 : decode cX3_letter 57 = .ok (.if_icmp .ge 8, 3) := by decide +kernel
theorem dX3_letter_60 : decode cX3_letter 60 = .ok (.bipush 101, 2) := by decide +kernel
theorem dX3_letter_62 : decode cX3_letter 62 = .ok (.goto 5, 3) := by decide +kernel
theorem dX3_letter_65 : decode cX3_letter 65 = .ok (.bipush 32, 2) := by decide +kernel
theorem dX3_letter_67 : decode cX3_letter 67 = .ok (.ireturn, 1) := by decide +kernel
theorem dX3_letter_68 : decode cX3_letter 68 = .ok (.iload_n 1, 1) := by decide +kernel
theorem dX3_letter_69 : decode cX3_letter 69 = .ok (.ifCond .ne 8, 3) := by decide +kernel
theorem dX3_letter_72 : decode cX3_letter 72 = .ok (.bipush 97, 2) := by decide +kernel
theorem dX3_letter_74 : decode cX3_letter 74 = .ok (.goto 66, 3) := by decide +kernel
theorem dX3_letter_77 : decode cX3_letter 77 = .ok (.iload_n 1, 1) := by decide +kernel
theorem dX3_letter_78 : decode cX3_letter 78 = .ok (.iconst 1, 1) := by decide +kernel
theorem dX3_letter_79 : decode cX3_letter 79 = .ok (.if_icmp .ne 8, 3) := by decide +kernel
theorem dX3_letter_82 : decode cX3_letter 82 = .ok (.bipush 117, 2) := by decide +kernel
theorem dX3_letter_84 : decode cX3_letter 84 = .ok (.goto 56, 3) := by decide +kernel
theorem dX3_letter_87 : decode cX3_letter 87 = .ok (.iload_n 1, 1) := by decide +kernel
theorem dX3_letter_88 : decode cX3_letter 88 = .ok (.iconst 2, 1) := by decide +kernel
theorem dX3_letter_89 : decode cX3_letter 89 = .ok (.if_icmp .ne 8, 3) := by decide +kernel
theorem dX3_letter_92 : decode cX3_letter 92 = .ok (.bipush 99, 2) := by decide +kernel
theorem dX3_letter_94 : decode cX3_letter 94 = .ok (.goto 46, 3) := by decide +kernel
theorem dX3_letter_97 : decode cX3_letter 97 = .ok (.iload_n 1, 1) := by decide +kernel
theorem dX3_letter_98 : decode cX3_letter 98 = .ok (.iconst 3, 1) := by decide +kernel
theorem dX3_letter_99 : decode cX3_letter 99 = .ok (.if_icmp .ne 8, 3) := by decide +kernel
theorem dX3_letter_102 : decode cX3_letter 102 = .ok (.bipush 116, 2) := by decide +kernel
theorem dX3_letter_104 : decode cX3_letter 104 = .ok (.goto 36, 3) := by decide +kernel
theorem dX3_letter_107 : decode cX3_letter 107 = .ok (.iload_n 1, 1) := by decide +kernel
theorem dX3_letter_108 : decode cX3_letter 108 = .ok (.iconst 4, 1) := by decide +kernel
theorem dX3_letter_109 : decode cX3_letter 109 = .ok (.if_icmp .ne 8, 3) := by decide +kernel
theorem dX3_letter_112 : decode cX3_letter 112 = .ok (.bipush 105, 2) := by decide +kernel
theorem dX3_letter_114 : decode cX3_letter 114 = .ok (.goto 26, 3) := by decide +kernel
theorem dX3_letter_117 : decode cX3_letter 117 = .ok (.iload_n 1, 1) := by decide +kernel
theorem dX3_letter_118 : decode cX3_letter 118 = .ok (.iconst 5, 1) := by decide +kernel
theorem dX3_letter_119 : decode cX3_letter 119 = .ok (.if_icmp .ne 8, 3) := by decide +kernel
theorem dX3_letter_122 : decode cX3_letter 122 = .ok (.bipush 111, 2) := by decide +kernel
theorem dX3_letter_124 : decode cX3_letter 124 = .ok (.goto 16, 3) := by decide +kernel
theorem dX3_letter_127 : decode cX3_letter 127 = .ok (.iload_n 1, 1) := by decide +kernel
theorem dX3_letter_128 : decode cX3_letter 128 = .ok (.bipush 6, 2) := by decide +kernel
theorem dX3_letter_130 : decode cX3_letter 130 = .ok (.if_icmp .ne 8, 3) := by decide +kernel
theorem dX3_letter_133 : decode cX3_letter 133 = .ok (.bipush 110, 2) := by decide +kernel
theorem dX3_letter_135 : decode cX3_letter 135 = .ok (.goto 5, 3) := by decide +kernel
theorem dX3_letter_138 : decode cX3_letter 138 = .ok (.bipush 32, 2) := by decide +kernel
theorem dX3_letter_140 : decode cX3_letter 140 = .ok (.ireturn, 1) := by decide +kernel
theorem dX3_letter_141 : decode cX3_letter 141 = .ok (.iload_n 1, 1) := by decide +kernel
theorem dX3_letter_142 : decode cX3_letter 142 = .ok (.ifCond .ne 8, 3) := by decide +kernel
theorem dX3_letter_145 : decode cX3_letter 145 = .ok (.bipush 108, 2) := by decide +kernel
theorem dX3_letter_147 : decode cX3_letter 147 = .ok (.goto 50, 3) := by decide +kernel
theorem dX3_letter_150 : decode cX3_letter 150 = .ok (.iload_n 1, 1) := by decide +kernel
theorem dX3_letter_151 : decode cX3_letter 151 = .ok (.iconst 1, 1) := by decide +kernel
theorem dX3_letter_152 : decode cX3_letter 152 = .ok (.if_icmp .eq 8, 3) := by decide +kernel
theorem dX3_letter_155 : decode cX3_letter 155 = .ok (.iload_n 1, 1) := by decide +kernel
theorem dX3_letter_156 : decode cX3_letter 156 = .ok (.iconst 4, 1) := by decide +kernel
theorem dX3_letter_157 : decode cX3_letter 157 = .ok (.if_icmp .ne 8, 3) := by decide +kernel
theorem dX3_letter_160 : decode cX3_letter 160 = .ok (.bipush 101, 2) := by decide +kernel
theorem dX3_letter_162 : decode cX3_letter 162 = .ok (.goto 35, 3) := by decide +kernel
theorem dX3_letter_165 : decode cX3_letter 165 = .ok (.iload_n 1, 1) := by decide +kernel
theorem dX3_letter_166 : decode cX3_letter 166 = .ok (.iconst 2, 1) := by decide +kernel
theorem dX3_letter_167 : decode cX3_letter 167 = .ok (.if_icmp .ne 8, 3) := by decide +kernel
theorem dX3_letter_170 : decode cX3_letter 170 = .ok (.bipush 97, 2) := by decide +kernel
theorem dX3_letter_172 : decode cX3_letter 172 = .ok (.goto 25, 3) := by decide +kernel
theorem dX3_letter_175 : decode cX3_letter 175 = .ok (.iload_n 1, 1) := by decide +kernel
theorem dX3_letter_176 : decode cX3_letter 176 = .ok (.iconst 3, 1) := by decide +kernel
theorem dX3_letter_177 : decode cX3_letter 177 = .ok (.if_icmp .ne 8, 3) := by decide +kernel
theorem dX3_letter_180 : decode cX3_letter 180 = .ok (.bipush 115, 2) := by decide +kernel
theorem dX3_letter_182 : decode cX3_letter 182 = .ok (.goto 15, 3) := by decide +kernel
theorem dX3_letter_185 : decode cX3_letter 185 = .ok (.iload_n 1, 1) := by decide +kernel
theorem dX3_letter_186 : decode cX3_letter 186 = .ok (.iconst 5, 1) := by decide +kernel
theorem dX3_letter_187 : decode cX3_letter 187 = .ok (.if_icmp .ne 8, 3) := by decide +kernel
theorem dX3_letter_190 : decode cX3_letter 190 = .ok (.bipush 100, 2) := by decide +kernel
theorem dX3_letter_192 : decode cX3_letter 192 = .ok (.goto 5, 3) := by decide +kernel
theorem dX3_letter_195 : decode cX3_letter 195 = .ok (.bipush 32, 2) := by decide +kernel
theorem dX3_letter_197 : decode cX3_letter 197 = .ok (.ireturn, 1) := by decide +kernel
theorem dX3_letter_198 : decode cX3_letter 198 = .ok (.iload_n 1, 1) := by decide +kernel
theorem dX3_letter_199 : decode cX3_letter 199 = .ok (.ifCond .ne 8, 3) := by decide +kernel
theorem dX3_letter_202 : decode cX3_letter 202 = .ok (.bipush 103, 2) := by decide +kernel
theorem dX3_letter_204 : decode cX3_letter 204 = .ok (.goto 45, 3) := by decide +kernel
theorem dX3_letter_207 : decode cX3_letter 207 = .ok (.iload_n 1, 1) := by decide +kernel
theorem dX3_letter_208 : decode cX3_letter 208 = .ok (.iconst 1, 1) := by decide +kernel
theorem dX3_letter_209 : decode cX3_letter 209 = .ok (.if_icmp .ne 8, 3) := by decide +kernel
theorem dX3_letter_212 : decode cX3_letter 212 = .ok (.bipush 114, 2) := by decide +kernel
theorem dX3_letter_214 : decode cX3_letter 214 = .ok (.goto 35, 3) := by decide +kernel
theorem dX3_letter_217 : decode cX3_letter 217 = .ok (.iload_n 1, 1) := by decide +kernel
theorem dX3_letter_218 : decode cX3_letter 218 = .ok (.iconst 2, 1) := by decide +kernel
theorem dX3_letter_219 : decode cX3_letter 219 = .ok (.if_icmp .ne 8, 3) := by decide +kernel
theorem dX3_letter_222 : decode cX3_letter 222 = .ok (.bipush 97, 2) := by decide +kernel
theorem dX3_letter_224 : decode cX3_letter 224 = .ok (.goto 25, 3) := by decide +kernel
theorem dX3_letter_227 : decode cX3_letter 227 = .ok (.iload_n 1, 1) := by decide +kernel
theorem dX3_letter_228 : decode cX3_letter 228 = .ok (.iconst 3, 1) := by decide +kernel
theorem dX3_letter_229 : decode cX3_letter 229 = .ok (.if_icmp .ne 8, 3) := by decide +kernel
theorem dX3_letter_232 : decode cX3_letter 232 = .ok (.bipush 99, 2) := by decide +kernel
theorem dX3_letter_234 : decode cX3_letter 234 = .ok (.goto 15, 3) := by decide +kernel
theorem dX3_letter_237 : decode cX3_letter 237 = .ok (.iload_n 1, 1) := by decide +kernel
theorem dX3_letter_238 : decode cX3_letter 238 = .ok (.iconst 4, 1) := by decide +kernel
theorem dX3_letter_239 : decode cX3_letter 239 = .ok (.if_icmp .ne 8, 3) := by decide +kernel
theorem dX3_letter_242 : decode cX3_letter 242 = .ok (.bipush 101, 2) := by decide +kernel
theorem dX3_letter_244 : decode cX3_letter 244 = .ok (.goto 5, 3) := by decide +kernel
theorem dX3_letter_247 : decode cX3_letter 247 = .ok (.bipush 32, 2) := by decide +kernel
theorem dX3_letter_249 : decode cX3_letter 249 = .ok (.ireturn, 1) := by decide +kernel
theorem dX3_letter_250 : decode cX3_letter 250 = .ok (.iload_n 1, 1) := by decide +kernel
theorem dX3_letter_251 : decode cX3_letter 251 = .ok (.ifCond .ne 8, 3) := by decide +kernel
theorem dX3_letter_254 : decode cX3_letter 254 = .ok (.bipush 114, 2) := by decide +kernel
theorem dX3_letter_256 : decode cX3_letter 256 = .ok (.goto 94, 3) := by decide +kernel
theorem dX3_letter_259 : decode cX3_letter 259 = .ok (.iload_n 1, 1) := by decide +kernel
theorem dX3_letter_260 : decode cX3_letter 260 = .ok (.iconst 1, 1) := by decide +kernel
theorem dX3_letter_261 : decode cX3_letter 261 = .ok (.if_icmp .eq 8, 3) := by decide +kernel
theorem dX3_letter_264 : decode cX3_letter 264 = .ok (.iload_n 1, 1) := by decide +kernel
theorem dX3_letter_265 : decode cX3_letter 265 = .ok (.iconst 3, 1) := by decide +kernel
theorem dX3_letter_266 : decode cX3_letter 266 = .ok (.if_icmp .ne 8, 3) := by decide +kernel
theorem dX3_letter_269 : decode cX3_letter 269 = .ok (.bipush 101, 2) := by decide +kernel
theorem dX3_letter_271 : decode cX3_letter 271 = .ok (.goto 79, 3) := by decide +kernel
theorem dX3_letter_274 : decode cX3_letter 274 = .ok (.iload_n 1, 1) := by decide +kernel
theorem dX3_letter_275 : decode cX3_letter 275 = .ok (.iconst 2, 1) := by decide +kernel
theorem dX3_letter_276 : decode cX3_letter 276 = .ok (.if_icmp .ne 8, 3) := by decide +kernel
theorem dX3_letter_279 : decode cX3_letter 279 = .ok (.bipush 100, 2) := by decide +kernel
theorem dX3_letter_281 : decode cX3_letter 281 = .ok (.goto 69, 3) := by decide +kernel
theorem dX3_letter_284 : decode cX3_letter 284 = .ok (.iload_n 1, 1) := by decide +kernel
theorem dX3_letter_285 : decode cX3_letter 285 = .ok (.iconst 4, 1) := by decide +kernel
theorem dX3_letter_286 : decode cX3_letter 286 = .ok (.if_icmp .ne 8, 3) := by decide +kernel
theorem dX3_letter_289 : decode cX3_letter 289 = .ok (.bipush 109, 2) := by decide +kernel
theorem dX3_letter_291 : decode cX3_letter 291 = .ok (.goto 59, 3) := by decide +kernel
theorem dX3_letter_294 : decode cX3_letter 294 = .ok (.iload_n 1, 1) := by decide +kernel
theorem dX3_letter_295 : decode cX3_letter 295 = .ok (.iconst 5, 1) := by decide +kernel
theorem dX3_letter_296 : decode cX3_letter 296 = .ok (.if_icmp .ne 8, 3) := by decide +kernel
theorem dX3_letter_299 : decode cX3_letter 299 = .ok (.bipush 112, 2) := by decide +kernel
theorem dX3_letter_301 : decode cX3_letter 301 = .ok (.goto 49, 3) := by decide +kernel
theorem dX3_letter_304 : decode cX3_letter 304 = .ok (.iload_n 1, 1) := by decide +kernel
theorem dX3_letter_305 : decode cX3_letter 305 = .ok (.bipush 6, 2) := by decide +kernel
theorem dX3_letter_307 : decode cX3_letter 307 = .ok (.if_icmp .ne 8, 3) := by decide +kernel
theorem dX3_letter_310 : decode cX3_letter 310 = .ok (.bipush 116, 2) := by decide +kernel
theorem dX3_letter_312 : decode cX3_letter 312 = .ok (.goto 38, 3) := by decide +kernel
theorem dX3_letter_315 : decode cX3_letter 315 = .ok (.iload_n 1, 1) := by decide +kernel
theorem dX3_letter_316 : decode cX3_letter 316 = .ok (.bipush 7, 2) := by decide +kernel
theorem dX3_letter_318 : decode cX3_letter 318 = .ok (.if_icmp .ne 8, 3) := by decide +kernel
theorem dX3_letter_321 : decode cX3_letter 321 = .ok (.bipush 105, 2) := by decide +kernel
theorem dX3_letter_323 : decode cX3_letter 323 = .ok (.goto 27, 3) := by decide +kernel
theorem dX3_letter_326 : decode cX3_letter 326 = .ok (.iload_n 1, 1) := by decide +kernel
theorem dX3_letter_327 : decode cX3_letter 327 = .ok (.bipush 8, 2) := by decide +kernel
theorem dX3_letter_329 : decode cX3_letter 329 = .ok (.if_icmp .ne 8, 3) := by decide +kernel
theorem dX3_letter_332 : decode cX3_letter 332 = .ok (.bipush 111, 2) := by decide +kernel
theorem dX3_letter_334 : decode cX3_letter 334 = .ok (.goto 16, 3) := by decide +kernel
theorem dX3_letter_337 : decode cX3_letter 337 = .ok (.iload_n 1, 1) := by decide +kernel
theorem dX3_letter_338 : decode cX3_letter 338 = .ok (.bipush 9, 2) := by decide +kernel
theorem dX3_letter_340 : decode cX3_letter 340 = .ok (.if_icmp .ne 8, 3) := by decide +kernel
theorem dX3_letter_343 : decode cX3_letter 343 = .ok (.bipush 110, 2) := by decide +kernel
theorem dX3_letter_345 : decode cX3_letter 345 = .ok (.goto 5, 3) := by decide +kernel
theorem dX3_letter_348 : decode cX3_letter 348 = .ok (.bipush 32, 2) := by decide +kernel
theorem dX3_letter_350 : decode cX3_letter 350 = .ok (.ireturn, 1) := by decide +kernel
theorem dX3_letter_351 : decode cX3_letter 351 = .ok (.iload_n 1, 1) := by decide +kernel
theorem dX3_letter_352 : decode cX3_letter 352 = .ok (.ifCond .ne 8, 3) := by decide +kernel
theorem dX3_letter_355 : decode cX3_letter 355 = .ok (.bipush 102, 2) := by decide +kernel
theorem dX3_letter_357 : decode cX3_letter 357 = .ok (.goto 55, 3) := by decide +kernel
theorem dX3_letter_360 : decode cX3_letter 360 = .ok (.iload_n 1, 1) := by decide +kernel
theorem dX3_letter_361 : decode cX3_letter 361 = .ok (.iconst 1, 1) := by decide +kernel
theorem dX3_letter_362 : decode cX3_letter 362 = .ok (.if_icmp .ne 8, 3) := by decide +kernel
theorem dX3_letter_365 : decode cX3_letter 365 = .ok (.bipush 114, 2) := by decide +kernel
theorem dX3_letter_367 : decode cX3_letter 367 = .ok (.goto 45, 3) := by decide +kernel
theorem dX3_letter_370 : decode cX3_letter 370 = .ok (.iload_n 1, 1) := by decide +kernel
theorem dX3_letter_371 : decode cX3_letter 371 = .ok (.iconst 2, 1) := by decide +kernel
theorem dX3_letter_372 : decode cX3_letter 372 = .ok (.if_icmp .ne 8, 3) := by decide +kernel
theorem dX3_letter_375 : decode cX3_letter 375 = .ok (.bipush 111, 2) := by decide +kernel
theorem dX3_letter_377 : decode cX3_letter 377 = .ok (.goto 35, 3) := by decide +kernel
theorem dX3_letter_380 : decode cX3_letter 380 = .ok (.iload_n 1, 1) := by decide +kernel
theorem dX3_letter_381 : decode cX3_letter 381 = .ok (.iconst 3, 1) := by decide +kernel
theorem dX3_letter_382 : decode cX3_letter 382 = .ok (.if_icmp .ne 8, 3) := by decide +kernel
theorem dX3_letter_385 : decode cX3_letter 385 = .ok (.bipush 122, 2) := by decide +kernel
theorem dX3_letter_387 : decode cX3_letter 387 = .ok (.goto 25, 3) := by decide +kernel
theorem dX3_letter_390 : decode cX3_letter 390 = .ok (.iload_n 1, 1) := by decide +kernel
theorem dX3_letter_391 : decode cX3_letter 391 = .ok (.iconst 4, 1) := by decide +kernel
theorem dX3_letter_392 : decode cX3_letter 392 = .ok (.if_icmp .ne 8, 3) := by decide +kernel
theorem dX3_letter_395 : decode cX3_letter 395 = .ok (.bipush 101, 2) := by decide +kernel
theorem dX3_letter_397 : decode cX3_letter 397 = .ok (.goto 15, 3) := by decide +kernel
theorem dX3_letter_400 : decode cX3_letter 400 = .ok (.iload_n 1, 1) := by decide +kernel
theorem dX3_letter_401 : decode cX3_letter 401 = .ok (.iconst 5, 1) := by decide +kernel
theorem dX3_letter_402 : decode cX3_letter 402 = .ok (.if_icmp .ne 8, 3) := by decide +kernel
theorem dX3_letter_405 : decode cX3_letter 405 = .ok (.bipush 110, 2) := by decide +kernel
theorem dX3_letter_407 : decode cX3_letter 407 = .ok (.goto 5, 3) := by decide +kernel
theorem dX3_letter_410 : decode cX3_letter 410 = .ok (.bipush 32, 2) := by decide +kernel
theorem dX3_letter_412 : decode cX3_letter 412 = .ok (.ireturn, 1) := by decide +kernel
set_option maxRecDepth 20000 in
theorem ggX3_signOf_X3_letter : GoodIn wsX3_signOf wsX3_letter := goodIn_r _ [6] (by decide +kernel) (by decide +kernel)
set_option maxRecDepth 20000 in
theorem gX3_signOf_X3_letter : GoodIn wsX3_signOf (va_wsS RX3 95 yX3_letter wsX3_letter) := goodIn_app (goodIn_of _ (by decide +kernel)) ggX3_signOf_X3_letter
theorem dX3_signOf_0 : decode cX3_signOf 0 = .ok (.iconst 0, 1) := by decide +kernel
theorem dX3_signOf_1 : decode cX3_signOf 1 = .ok (.istore_n 3, 1) := by decide +kernel
theorem dX3_signOf_2 : decode cX3_signOf 2 = .ok (.aload_n 0, 1) := by decide +kernel
theorem dX3_signOf_3 : decode cX3_signOf 3 = .ok (.getfield 13, 3) := by decide +kernel
theorem dX3_signOf_6 : decode cX3_signOf 6 = .ok (.iload_n 1, 1) := by decide +kernel
theorem dX3_signOf_7 : decode cX3_signOf 7 = .ok (.iaload, 1) := by decide +kernel
theorem dX3_signOf_8 : decode cX3_signOf 8 = .ok (.iload_n 3, 1) := by decide +kernel
theorem dX3_signOf_9 : decode cX3_signOf 9 = .ok (.invokestatic 95, 3) := by decide +kernel
theorem dX3_signOf_12 : decode cX3_signOf 12 = .ok (.bipush 32, 2) := by decide +kernel
theorem dX3_signOf_14 : decode cX3_signOf 14 = .ok (.if_icmp .eq 9, 3) := by decide +kernel
theorem dX3_signOf_17 : decode cX3_signOf 17 = .ok (.iinc 3 1, 3) := by decide +kernel
theorem dX3_signOf_20 : decode cX3_signOf 20 = .ok (.goto (-18), 3) := by decide +kernel
theorem dX3_signOf_23 : decode cX3_signOf 23 = .ok (.iload_n 2, 1) := by decide +kernel
theorem dX3_signOf_24 : decode cX3_signOf 24 = .ok (.ifCond .lt 19, 3) := by decide +kernel
theorem dX3_signOf_27 : decode cX3_signOf 27 = .ok (.iload_n 2, 1) := by decide +kernel
theorem dX3_signOf_28 : decode cX3_signOf 28 = .ok (.iload_n 3, 1) := by decide +kernel
theorem dX3_signOf_29 : decode cX3_signOf 29 = .ok (.if_icmp .ge 14, 3) := by decide +kernel
theorem dX3_signOf_32 : decode cX3_signOf 32 = .ok (.aload_n 0, 1) := by decide +kernel
theorem dX3_signOf_33 : decode cX3_signOf 33 = .ok (.getfield 13, 3) := by decide +kernel
theorem dX3_signOf_36 : decode cX3_signOf 36 = .ok (.iload_n 1, 1) := by decide +kernel
theorem dX3_signOf_37 : decode cX3_signOf 37 = .ok (.iaload, 1) := by decide +kernel
theorem dX3_signOf_38 : decode cX3_signOf 38 = .ok (.iload_n 2, 1) := by decide +kernel
theorem dX3_signOf_39 : decode cX3_signOf 39 = .ok (.invokestatic 95, 3) := by decide +kernel
theorem dX3_signOf_42 : decode cX3_signOf 42 = .ok (.ireturn, 1) := by decide +kernel
theorem dX3_signOf_43 : decode cX3_signOf 43 = .ok (.aload_n 0, 1) := by decide +kernel
theorem dX3_signOf_44 : decode cX3_signOf 44 = .ok (.getfield 13, 3) := by decide +kernel
theorem dX3_signOf_47 : decode cX3_signOf 47 = .ok (.iload_n 1, 1) := by decide +kernel
theorem dX3_signOf_48 : decode cX3_signOf 48 = .ok (.iaload, 1) := by decide +kernel
theorem dX3_signOf_49 : decode cX3_signOf 49 = .ok (.iconst 2, 1) := by decide +kernel
theorem dX3_signOf_50 : decode cX3_signOf 50 = .ok (.if_icmp .lt 17, 3) := by decide +kernel
theorem dX3_signOf_53 : decode cX3_signOf 53 = .ok (.aload_n 0, 1) := by decide +kernel
theorem dX3_signOf_54 : decode cX3_signOf 54 = .ok (.getfield 16, 3) := by decide +kernel
theorem dX3_signOf_57 : decode cX3_signOf 57 = .ok (.iload_n 1, 1) := by decide +kernel
theorem dX3_signOf_58 : decode cX3_signOf 58 = .ok (.iaload, 1) := by decide +kernel
theorem dX3_signOf_59 : decode cX3_signOf 59 = .ok (.iconst (-1), 1) := by decide +kernel
theorem dX3_signOf_60 : decode cX3_signOf 60 = .ok (.if_icmp .eq 7, 3) := by decide +kernel
theorem dX3_signOf_63 : decode cX3_signOf 63 = .ok (.iconst 1, 1) := by decide +kernel
theorem dX3_signOf_64 : decode cX3_signOf 64 = .ok (.goto 4, 3) := by decide +kernel
theorem dX3_signOf_67 : decode cX3_signOf 67 = .ok (.iconst 0, 1) := by decide +kernel
theorem dX3_signOf_68 : decode cX3_signOf 68 = .ok (.istore 4, 2) := by decide +kernel
theorem dX3_signOf_70 : decode cX3_signOf 70 = .ok (.iload 4, 2) := by decide +kernel
theorem dX3_signOf_72 : decode cX3_signOf 72 = .ok (.ifCond .ne 8, 3) := by decide +kernel
theorem dX3_signOf_75 : decode cX3_signOf 75 = .ok (.bipush 32, 2) := by decide +kernel
theorem dX3_signOf_77 : decode cX3_signOf 77 = .ok (.goto 35, 3) := by decide +kernel
theorem dX3_signOf_80 : decode cX3_signOf 80 = .ok (.iload_n 2, 1) := by decide +kernel
theorem dX3_signOf_81 : decode cX3_signOf 81 = .ok (.iload_n 3, 1) := by decide +kernel
theorem dX3_signOf_82 : decode cX3_signOf 82 = .ok (.if_icmp .ne 8, 3) := by decide +kernel
theorem dX3_signOf_85 : decode cX3_signOf 85 = .ok (.bipush 58, 2) := by decide +kernel
theorem dX3_signOf_87 : decode cX3_signOf 87 = .ok (.goto 25, 3) := by decide +kernel
theorem dX3_signOf_90 : decode cX3_signOf 90 = .ok (.iload_n 2, 1) := by decide +kernel
theorem dX3_signOf_91 : decode cX3_signOf 91 = .ok (.iload_n 3, 1) := by decide +kernel
theorem dX3_signOf_92 : decode cX3_signOf 92 = .ok (.iconst 1, 1) := by decide +kernel
theorem dX3_signOf_93 : decode cX3_signOf 93 = .ok (.iadd, 1) := by decide +kernel
theorem dX3_signOf_94 : decode cX3_signOf 94 = .ok (.if_icmp .ne 16, 3) := by decide +kernel
theorem dX3_signOf_97 : decode cX3_signOf 97 = .ok (.bipush 48, 2) := by decide +kernel
theorem dX3_signOf_99 : decode cX3_signOf 99 = .ok (.aload_n 0, 1) := by decide +kernel
theorem dX3_signOf_100 : decode cX3_signOf 100 = .ok (.getfield 16, 3) := by decide +kernel
theorem dX3_signOf_103 : decode cX3_signOf 103 = .ok (.iload_n 1, 1) := by decide +kernel
theorem dX3_signOf_104 : decode cX3_signOf 104 = .ok (.iaload, 1) := by decide +kernel
theorem dX3_signOf_105 : decode cX3_signOf 105 = .ok (.iadd, 1) := by decide +kernel
theorem dX3_signOf_106 : decode cX3_signOf 106 = .ok (.i2c, 1) := by decide +kernel
theorem dX3_signOf_107 : decode cX3_signOf 107 = .ok (.goto 5, 3) := by decide +kernel
theorem dX3_signOf_110 : decode cX3_signOf 110 = .ok (.bipush 32, 2) := by decide +kernel
theorem dX3_signOf_112 : decode cX3_signOf 112 = .ok (.ireturn, 1) := by decide +kernel
set_option maxRecDepth 20000 in
theorem ggX3_sign_X3_isName : GoodIn wsX3_sign wsX3_isName := goodIn_r _ [4, 5, 6, 3, 7] (by decide +kernel) (by decide +kernel)
set_option maxRecDepth 20000 in
theorem gX3_sign_X3_isName : GoodIn wsX3_sign (va_wsS RX3 68 yX3_isName wsX3_isName) := goodIn_app (goodIn_of _ (by decide +kernel)) ggX3_sign_X3_isName
set_option maxRecDepth 20000 in
theorem ggX3_sign_X3_signOf : GoodIn wsX3_sign wsX3_signOf := goodIn_r _ [11, 12, 13, 14, 15, 3, 16, 22, 23, 24, 25, 26, 27, 28, 29, 30, 31, 32, 33, 34, 35, 36, 37, 38, 39] (by decide +kernel) (by decide +kernel)
set_option maxRecDepth 20000 in
theorem gX3_sign_X3_signOf : GoodIn wsX3_sign (wsV RX3 99 RX3 yX3_signOf wsX3_signOf) := goodIn_app (goodIn_of _ (by decide +kernel)) ggX3_sign_X3_signOf
set_option maxRecDepth 20000 in
theorem ggX3_sign_X3_fails : GoodIn wsX3_sign wsX3_fails := goodIn_r _ [20, 21, 22, 23, 24, 25, 26, 27, 28, 29, 30, 31, 32, 33, 34, 35, 36, 37, 38, 39] (by decide +kernel) (by decide +kernel)
set_option maxRecDepth 20000 in
theorem gX3_sign_X3_fails : GoodIn wsX3_sign (wsV RX3 65 RX3 yX3_fails wsX3_fails) := goodIn_app (goodIn_of _ (by decide +kernel)) ggX3_sign_X3_fails
theorem dX3_sign_0 : decode cX3_sign 0 = .ok (.iload_n 1, 1) := by decide +kernel
theorem dX3_sign_1 : decode cX3_sign 1 = .ok (.invokestatic 68, 3) := by decide +kernel
theorem dX3_sign_4 : decode cX3_sign 4 = .ok (.ifCond .eq 18, 3) := by decide +kernel
theorem dX3_sign_7 : decode cX3_sign 7 = .ok (.aload_n 0, 1) := by decide +kernel
theorem dX3_sign_8 : decode cX3_sign 8 = .ok (.iload_n 1, 1) := by decide +kernel
theorem dX3_sign_9 : decode cX3_sign 9 = .ok (.iload_n 2, 1) := by decide +kernel
theorem dX3_sign_10 : decode cX3_sign 10 = .ok (.invokevirtual 99, 3) := by decide +kernel
theorem dX3_sign_13 : decode cX3_sign 13 = .ok (.bipush 32, 2) := by decide +kernel
theorem dX3_sign_15 : decode cX3_sign 15 = .ok (.if_icmp .eq 7, 3) := by decide +kernel
theorem dX3_sign_18 : decode cX3_sign 18 = .ok (.iconst 1, 1) := by decide +kernel
theorem dX3_sign_19 : decode cX3_sign 19 = .ok (.goto 4, 3) := by decide +kernel
theorem dX3_sign_22 : decode cX3_sign 22 = .ok (.iconst 0, 1) := by decide +kernel
theorem dX3_sign_23 : decode cX3_sign 23 = .ok (.istore_n 3, 1) := by decide +kernel
theorem dX3_sign_24 : decode cX3_sign 24 = .ok (.aload_n 0, 1) := by decide +kernel
theorem dX3_sign_25 : decode cX3_sign 25 = .ok (.iload_n 3, 1) := by decide +kernel
theorem dX3_sign_26 : decode cX3_sign 26 = .ok (.ifCond .eq 7, 3) := by decide +kernel
theorem dX3_sign_29 : decode cX3_sign 29 = .ok (.iconst 0, 1) := by decide +kernel
theorem dX3_sign_30 : decode cX3_sign 30 = .ok (.goto 4, 3) := by decide +kernel
theorem dX3_sign_33 : decode cX3_sign 33 = .ok (.iconst 1, 1) := by decide +kernel
theorem dX3_sign_34 : decode cX3_sign 34 = .ok (.invokevirtual 65, 3) := by decide +kernel
theorem dX3_sign_37 : decode cX3_sign 37 = .ok (.ifCond .eq 8, 3) := by decide +kernel
theorem dX3_sign_40 : decode cX3_sign 40 = .ok (.bipush 32, 2) := by decide +kernel
theorem dX3_sign_42 : decode cX3_sign 42 = .ok (.goto 9, 3) := by decide +kernel
theorem dX3_sign_45 : decode cX3_sign 45 = .ok (.aload_n 0, 1) := by decide +kernel
theorem dX3_sign_46 : decode cX3_sign 46 = .ok (.iload_n 1, 1) := by decide +kernel
theorem dX3_sign_47 : decode cX3_sign 47 = .ok (.iload_n 2, 1) := by decide +kernel
theorem dX3_sign_48 : decode cX3_sign 48 = .ok (.invokevirtual 99, 3) := by decide +kernel
theorem dX3_sign_51 : decode cX3_sign 51 = .ok (.ireturn, 1) := by decide +kernel
set_option maxRecDepth 20000 in
theorem ggX3_owner_X3_isName : GoodIn wsX3_owner wsX3_isName := goodIn_r _ [5, 6, 7, 4, 8] (by decide +kernel) (by decide +kernel)
set_option maxRecDepth 20000 in
theorem gX3_owner_X3_isName : GoodIn wsX3_owner (va_wsS RX3 68 yX3_isName wsX3_isName) := goodIn_app (goodIn_of _ (by decide +kernel)) ggX3_owner_X3_isName
set_option maxRecDepth 20000 in
theorem ggX3_owner_X3_fails : GoodIn wsX3_owner wsX3_fails := goodIn_r _ [12, 13, 14, 15, 16, 17, 18, 19, 20, 21, 22, 23, 24, 25, 26, 27, 28, 29, 30, 31] (by decide +kernel) (by decide +kernel)
set_option maxRecDepth 20000 in
theorem gX3_owner_X3_fails : GoodIn wsX3_owner (wsV RX3 65 RX3 yX3_fails wsX3_fails) := goodIn_app (goodIn_of _ (by decide +kernel)) ggX3_owner_X3_fails
theorem dX3_owner_0 : decode cX3_owner 0 = .ok (.aload_n 0, 1) := by decide +kernel
theorem dX3_owner_1 : decode cX3_owner 1 = .ok (.iload_n 1, 1) := by decide +kernel
theorem dX3_owner_2 : decode cX3_owner 2 = .ok (.invokestatic 68, 3) := by decide +kernel
theorem dX3_owner_5 : decode cX3_owner 5 = .ok (.ifCond .eq 7, 3) := by decide +kernel
theorem dX3_owner_8 : decode cX3_owner 8 = .ok (.iconst 0, 1) := by decide +kernel
theorem dX3_owner_9 : decode cX3_owner 9 = .ok (.goto 4, 3) := by decide +kernel
theorem dX3_owner_12 : decode cX3_owner 12 = .ok (.iconst 1, 1) := by decide +kernel
theorem dX3_owner_13 : decode cX3_owner 13 = .ok (.invokevirtual 65, 3) := by decide +kernel
theorem dX3_owner_16 : decode cX3_owner 16 = .ok (.ifCond .eq 7, 3) := by decide +kernel
theorem dX3_owner_19 : decode cX3_owner 19 = .ok (.iconst 0, 1) := by decide +kernel
theorem dX3_owner_20 : decode cX3_owner 20 = .ok (.goto 9, 3) := by decide +kernel
theorem dX3_owner_23 : decode cX3_owner 23 = .ok (.aload_n 0, 1) := by decide +kernel
theorem dX3_owner_24 : decode cX3_owner 24 = .ok (.getfield 16, 3) := by decide +kernel
theorem dX3_owner_27 : decode cX3_owner 27 = .ok (.iload_n 1, 1) := by decide +kernel
theorem dX3_owner_28 : decode cX3_owner 28 = .ok (.iaload, 1) := by decide +kernel
theorem dX3_owner_29 : decode cX3_owner 29 = .ok (.ireturn, 1) := by decide +kernel
theorem dX3_nextOf_0 : decode cX3_nextOf 0 = .ok (.aload_n 0, 1) := by decide +kernel
theorem dX3_nextOf_1 : decode cX3_nextOf 1 = .ok (.getfield 13, 3) := by decide +kernel
theorem dX3_nextOf_4 : decode cX3_nextOf 4 = .ok (.iload_n 1, 1) := by decide +kernel
theorem dX3_nextOf_5 : decode cX3_nextOf 5 = .ok (.iaload, 1) := by decide +kernel
theorem dX3_nextOf_6 : decode cX3_nextOf 6 = .ok (.istore_n 2, 1) := by decide +kernel
theorem dX3_nextOf_7 : decode cX3_nextOf 7 = .ok (.iload_n 2, 1) := by decide +kernel
theorem dX3_nextOf_8 : decode cX3_nextOf 8 = .ok (.ifCond .eq 8, 3) := by decide +kernel
theorem dX3_nextOf_11 : decode cX3_nextOf 11 = .ok (.iload_n 2, 1) := by decide +kernel
theorem dX3_nextOf_12 : decode cX3_nextOf 12 = .ok (.iconst 5, 1) := by decide +kernel
theorem dX3_nextOf_13 : decode cX3_nextOf 13 = .ok (.if_icmp .ne 7, 3) := by decide +kernel
theorem dX3_nextOf_16 : decode cX3_nextOf 16 = .ok (.iconst (-1), 1) := by decide +kernel
theorem dX3_nextOf_17 : decode cX3_nextOf 17 = .ok (.goto 31, 3) := by decide +kernel
theorem dX3_nextOf_20 : decode cX3_nextOf 20 = .ok (.aload_n 0, 1) := by decide +kernel
theorem dX3_nextOf_21 : decode cX3_nextOf 21 = .ok (.getfield 19, 3) := by decide +kernel
theorem dX3_nextOf_24 : decode cX3_nextOf 24 = .ok (.iload_n 1, 1) := by decide +kernel
theorem dX3_nextOf_25 : decode cX3_nextOf 25 = .ok (.iaload, 1) := by decide +kernel
theorem dX3_nextOf_26 : decode cX3_nextOf 26 = .ok (.iload_n 2, 1) := by decide +kernel
theorem dX3_nextOf_27 : decode cX3_nextOf 27 = .ok (.iconst 3, 1) := by decide +kernel
theorem dX3_nextOf_28 : decode cX3_nextOf 28 = .ok (.if_icmp .ne 8, 3) := by decide +kernel
theorem dX3_nextOf_31 : decode cX3_nextOf 31 = .ok (.bipush 10, 2) := by decide +kernel
theorem dX3_nextOf_33 : decode cX3_nextOf 33 = .ok (.goto 14, 3) := by decide +kernel
theorem dX3_nextOf_36 : decode cX3_nextOf 36 = .ok (.iload_n 2, 1) := by decide +kernel
theorem dX3_nextOf_37 : decode cX3_nextOf 37 = .ok (.iconst 4, 1) := by decide +kernel
theorem dX3_nextOf_38 : decode cX3_nextOf 38 = .ok (.if_icmp .ne 8, 3) := by decide +kernel
theorem dX3_nextOf_41 : decode cX3_nextOf 41 = .ok (.bipush 20, 2) := by decide +kernel
theorem dX3_nextOf_43 : decode cX3_nextOf 43 = .ok (.goto 4, 3) := by decide +kernel
theorem dX3_nextOf_46 : decode cX3_nextOf 46 = .ok (.iconst 0, 1) := by decide +kernel
theorem dX3_nextOf_47 : decode cX3_nextOf 47 = .ok (.iadd, 1) := by decide +kernel
theorem dX3_nextOf_48 : decode cX3_nextOf 48 = .ok (.ireturn, 1) := by decide +kernel
set_option maxRecDepth 20000 in
theorem ggX3_next_X3_isName : GoodIn wsX3_next wsX3_isName := goodIn_r _ [4, 5, 6, 3, 7] (by decide +kernel) (by decide +kernel)
set_option maxRecDepth 20000 in
theorem gX3_next_X3_isName : GoodIn wsX3_next (va_wsS RX3 68 yX3_isName wsX3_isName) := goodIn_app (goodIn_of _ (by decide +kernel)) ggX3_next_X3_isName
set_option maxRecDepth 20000 in
theorem ggX3_next_X3_fails : GoodIn wsX3_next wsX3_fails := goodIn_r _ [11, 12, 19, 20, 21, 22, 23, 24, 25, 26, 27, 28, 29, 30, 31, 32, 33, 34, 35, 36] (by decide +kernel) (by decide +kernel)
set_option maxRecDepth 20000 in
theorem gX3_next_X3_fails : GoodIn wsX3_next (wsV RX3 65 RX3 yX3_fails wsX3_fails) := goodIn_app (goodIn_of _ (by decide +kernel)) ggX3_next_X3_fails
set_option maxRecDepth 20000 in
theorem ggX3_next_X3_nextOf : GoodIn wsX3_next wsX3_nextOf := goodIn_r _ [16, 17, 18, 19, 20, 21, 22, 23, 24, 25, 26, 27, 28, 29, 30, 31, 32, 33, 34, 35, 36] (by decide +kernel) (by decide +kernel)
set_option maxRecDepth 20000 in
theorem gX3_next_X3_nextOf : GoodIn wsX3_next (wsV RX3 102 RX3 yX3_nextOf wsX3_nextOf) := goodIn_app (goodIn_of _ (by decide +kernel)) ggX3_next_X3_nextOf
theorem dX3_next_0 : decode cX3_next 0 = .ok (.aload_n 0, 1) := by decide +kernel
theorem dX3_next_1 : decode cX3_next 1 = .ok (.iload_n 1, 1) := by decide +kernel
theorem dX3_next_2 : decode cX3_next 2 = .ok (.invokestatic 68, 3) := by decide +kernel
theorem dX3_next_5 : decode cX3_next 5 = .ok (.ifCond .eq 7, 3) := by decide +kernel
theorem dX3_next_8 : decode cX3_next 8 = .ok (.iconst 0, 1) := by decide +kernel
theorem dX3_next_9 : decode cX3_next 9 = .ok (.goto 4, 3) := by decide +kernel
theorem dX3_next_12 : decode cX3_next 12 = .ok (.iconst 1, 1) := by decide +kernel
theorem dX3_next_13 : decode cX3_next 13 = .ok (.invokevirtual 65, 3) := by decide +kernel
theorem dX3_next_16 : decode cX3_next 16 = .ok (.ifCond .eq 7, 3) := by decide +kernel
theorem dX3_next_19 : decode cX3_next 19 = .ok (.iconst 0, 1) := by decide +kernel
theorem dX3_next_20 : decode cX3_next 20 = .ok (.goto 8, 3) := by decide +kernel
theorem dX3_next_23 : decode cX3_next 23 = .ok (.aload_n 0, 1) := by decide +kernel
theorem dX3_next_24 : decode cX3_next 24 = .ok (.iload_n 1, 1) := by decide +kernel
theorem dX3_next_25 : decode cX3_next 25 = .ok (.invokevirtual 102, 3) := by decide +kernel
theorem dX3_next_28 : decode cX3_next 28 = .ok (.ireturn, 1) := by decide +kernel
set_option maxRecDepth 20000 in
theorem ggX3_dispute_X3_isOwner : GoodIn wsX3_dispute wsX3_isOwner := goodIn_r _ [10, 11, 12, 9, 13] (by decide +kernel) (by decide +kernel)
set_option maxRecDepth 20000 in
theorem gX3_dispute_X3_isOwner : GoodIn wsX3_dispute (va_wsS RX3 60 yX3_isOwner wsX3_isOwner) := goodIn_app (goodIn_of _ (by decide +kernel)) ggX3_dispute_X3_isOwner
set_option maxRecDepth 20000 in
theorem ggX3_dispute_X3_isName : GoodIn wsX3_dispute wsX3_isName := goodIn_r _ [16, 11, 12, 9, 13] (by decide +kernel) (by decide +kernel)
set_option maxRecDepth 20000 in
theorem gX3_dispute_X3_isName : GoodIn wsX3_dispute (va_wsS RX3 68 yX3_isName wsX3_isName) := goodIn_app (goodIn_of _ (by decide +kernel)) ggX3_dispute_X3_isName
set_option maxRecDepth 20000 in
theorem ggX3_dispute_X3_isIn : GoodIn wsX3_dispute wsX3_isIn := goodIn_r _ [13] (by decide +kernel) (by decide +kernel)
set_option maxRecDepth 20000 in
theorem gX3_dispute_X3_isIn : GoodIn wsX3_dispute (va_wsS RX3 56 yX3_isIn wsX3_isIn) := goodIn_app (goodIn_of _ (by decide +kernel)) ggX3_dispute_X3_isIn
set_option maxRecDepth 20000 in
theorem ggX3_dispute_X3_fails : GoodIn wsX3_dispute wsX3_fails := goodIn_r _ [20, 21, 27, 28, 29, 30, 31, 32, 33, 34, 35, 36, 37, 38, 39, 40, 41, 42, 43, 44] (by decide +kernel) (by decide +kernel)
set_option maxRecDepth 20000 in
theorem gX3_dispute_X3_fails : GoodIn wsX3_dispute (wsV RX3 65 RX3 yX3_fails wsX3_fails) := goodIn_app (goodIn_of _ (by decide +kernel)) ggX3_dispute_X3_fails
set_option maxRecDepth 20000 in
theorem ggX3_dispute_X3_clears : GoodIn wsX3_dispute wsX3_clears := goodIn_r _ [25, 26, 27, 28, 29, 30, 31, 32, 33, 34, 35, 36, 37, 38, 39, 40, 41, 42, 43, 44] (by decide +kernel) (by decide +kernel)
set_option maxRecDepth 20000 in
theorem gX3_dispute_X3_clears : GoodIn wsX3_dispute (wsV RX3 84 RX3 yX3_clears wsX3_clears) := goodIn_app (goodIn_of _ (by decide +kernel)) ggX3_dispute_X3_clears
theorem dX3_dispute_0 : decode cX3_dispute 0 = .ok (.iload_n 1, 1) := by decide +kernel
theorem dX3_dispute_1 : decode cX3_dispute 1 = .ok (.invokestatic 60, 3) := by decide +kernel
theorem dX3_dispute_4 : decode cX3_dispute 4 = .ok (.ifCond .eq 14, 3) := by decide +kernel
theorem dX3_dispute_7 : decode cX3_dispute 7 = .ok (.iload_n 2, 1) := by decide +kernel
theorem dX3_dispute_8 : decode cX3_dispute 8 = .ok (.invokestatic 68, 3) := by decide +kernel
theorem dX3_dispute_11 : decode cX3_dispute 11 = .ok (.ifCond .eq 7, 3) := by decide +kernel
theorem dX3_dispute_14 : decode cX3_dispute 14 = .ok (.iconst 1, 1) := by decide +kernel
theorem dX3_dispute_15 : decode cX3_dispute 15 = .ok (.goto 4, 3) := by decide +kernel
theorem dX3_dispute_18 : decode cX3_dispute 18 = .ok (.iconst 0, 1) := by decide +kernel
theorem dX3_dispute_19 : decode cX3_dispute 19 = .ok (.istore_n 3, 1) := by decide +kernel
theorem dX3_dispute_20 : decode cX3_dispute 20 = .ok (.aload_n 0, 1) := by decide +kernel
theorem dX3_dispute_21 : decode cX3_dispute 21 = .ok (.iload_n 3, 1) := by decide +kernel
theorem dX3_dispute_22 : decode cX3_dispute 22 = .ok (.ifCond .ne 7, 3) := by decide +kernel
theorem dX3_dispute_25 : decode cX3_dispute 25 = .ok (.iconst 1, 1) := by decide +kernel
theorem dX3_dispute_26 : decode cX3_dispute 26 = .ok (.goto 32, 3) := by decide +kernel
theorem dX3_dispute_29 : decode cX3_dispute 29 = .ok (.aload_n 0, 1) := by decide +kernel
theorem dX3_dispute_30 : decode cX3_dispute 30 = .ok (.getfield 13, 3) := by decide +kernel
theorem dX3_dispute_33 : decode cX3_dispute 33 = .ok (.iload_n 2, 1) := by decide +kernel
theorem dX3_dispute_34 : decode cX3_dispute 34 = .ok (.iaload, 1) := by decide +kernel
theorem dX3_dispute_35 : decode cX3_dispute 35 = .ok (.iconst 1, 1) := by decide +kernel
theorem dX3_dispute_36 : decode cX3_dispute 36 = .ok (.iconst 3, 1) := by decide +kernel
theorem dX3_dispute_37 : decode cX3_dispute 37 = .ok (.invokestatic 56, 3) := by decide +kernel
theorem dX3_dispute_40 : decode cX3_dispute 40 = .ok (.ifCond .eq 13, 3) := by decide +kernel
theorem dX3_dispute_43 : decode cX3_dispute 43 = .ok (.aload_n 0, 1) := by decide +kernel
theorem dX3_dispute_44 : decode cX3_dispute 44 = .ok (.getfield 16, 3) := by decide +kernel
theorem dX3_dispute_47 : decode cX3_dispute 47 = .ok (.iload_n 2, 1) := by decide +kernel
theorem dX3_dispute_48 : decode cX3_dispute 48 = .ok (.iaload, 1) := by decide +kernel
theorem dX3_dispute_49 : decode cX3_dispute 49 = .ok (.iload_n 1, 1) := by decide +kernel
theorem dX3_dispute_50 : decode cX3_dispute 50 = .ok (.if_icmp .ne 7, 3) := by decide +kernel
theorem dX3_dispute_53 : decode cX3_dispute 53 = .ok (.iconst 2, 1) := by decide +kernel
theorem dX3_dispute_54 : decode cX3_dispute 54 = .ok (.goto 4, 3) := by decide +kernel
theorem dX3_dispute_57 : decode cX3_dispute 57 = .ok (.iconst 0, 1) := by decide +kernel
theorem dX3_dispute_58 : decode cX3_dispute 58 = .ok (.invokevirtual 65, 3) := by decide +kernel
theorem dX3_dispute_61 : decode cX3_dispute 61 = .ok (.ifCond .eq 5, 3) := by decide +kernel
theorem dX3_dispute_64 : decode cX3_dispute 64 = .ok (.iconst 0, 1) := by decide +kernel
theorem dX3_dispute_65 : decode cX3_dispute 65 = .ok (.ireturn, 1) := by decide +kernel
theorem dX3_dispute_66 : decode cX3_dispute 66 = .ok (.aload_n 0, 1) := by decide +kernel
theorem dX3_dispute_67 : decode cX3_dispute 67 = .ok (.getfield 34, 3) := by decide +kernel
theorem dX3_dispute_70 : decode cX3_dispute 70 = .ok (.iload_n 2, 1) := by decide +kernel
theorem dX3_dispute_71 : decode cX3_dispute 71 = .ok (.aload_n 0, 1) := by decide +kernel
theorem dX3_dispute_72 : decode cX3_dispute 72 = .ok (.getfield 13, 3) := by decide +kernel
theorem dX3_dispute_75 : decode cX3_dispute 75 = .ok (.iload_n 2, 1) := by decide +kernel
theorem dX3_dispute_76 : decode cX3_dispute 76 = .ok (.iaload, 1) := by decide +kernel
theorem dX3_dispute_77 : decode cX3_dispute 77 = .ok (.iastore, 1) := by decide +kernel
theorem dX3_dispute_78 : decode cX3_dispute 78 = .ok (.aload_n 0, 1) := by decide +kernel
theorem dX3_dispute_79 : decode cX3_dispute 79 = .ok (.getfield 28, 3) := by decide +kernel
theorem dX3_dispute_82 : decode cX3_dispute 82 = .ok (.iload_n 2, 1) := by decide +kernel
theorem dX3_dispute_83 : decode cX3_dispute 83 = .ok (.iload_n 1, 1) := by decide +kernel
theorem dX3_dispute_84 : decode cX3_dispute 84 = .ok (.iastore, 1) := by decide +kernel
theorem dX3_dispute_85 : decode cX3_dispute 85 = .ok (.aload_n 0, 1) := by decide +kernel
theorem dX3_dispute_86 : decode cX3_dispute 86 = .ok (.getfield 31, 3) := by decide +kernel
theorem dX3_dispute_89 : decode cX3_dispute 89 = .ok (.iload_n 2, 1) := by decide +kernel
theorem dX3_dispute_90 : decode cX3_dispute 90 = .ok (.aload_n 0, 1) := by decide +kernel
theorem dX3_dispute_91 : decode cX3_dispute 91 = .ok (.getfield 71, 3) := by decide +kernel
theorem dX3_dispute_94 : decode cX3_dispute 94 = .ok (.iastore, 1) := by decide +kernel
theorem dX3_dispute_95 : decode cX3_dispute 95 = .ok (.aload_n 0, 1) := by decide +kernel
theorem dX3_dispute_96 : decode cX3_dispute 96 = .ok (.getfield 13, 3) := by decide +kernel
theorem dX3_dispute_99 : decode cX3_dispute 99 = .ok (.iload_n 2, 1) := by decide +kernel
theorem dX3_dispute_100 : decode cX3_dispute 100 = .ok (.iconst 5, 1) := by decide +kernel
theorem dX3_dispute_101 : decode cX3_dispute 101 = .ok (.iastore, 1) := by decide +kernel
theorem dX3_dispute_102 : decode cX3_dispute 102 = .ok (.aload_n 0, 1) := by decide +kernel
theorem dX3_dispute_103 : decode cX3_dispute 103 = .ok (.iload_n 2, 1) := by decide +kernel
theorem dX3_dispute_104 : decode cX3_dispute 104 = .ok (.invokevirtual 84, 3) := by decide +kernel
theorem dX3_dispute_107 : decode cX3_dispute 107 = .ok (.aload_n 0, 1) := by decide +kernel
theorem dX3_dispute_108 : decode cX3_dispute 108 = .ok (.getfield 34, 3) := by decide +kernel
theorem dX3_dispute_111 : decode cX3_dispute 111 = .ok (.iload_n 2, 1) := by decide +kernel
theorem dX3_dispute_112 : decode cX3_dispute 112 = .ok (.iaload, 1) := by decide +kernel
theorem dX3_dispute_113 : decode cX3_dispute 113 = .ok (.ireturn, 1) := by decide +kernel
set_option maxRecDepth 20000 in
theorem ggX3_decide_X3_isName : GoodIn wsX3_decide wsX3_isName := goodIn_r _ [11, 12, 13, 10, 14] (by decide +kernel) (by decide +kernel)
set_option maxRecDepth 20000 in
theorem gX3_decide_X3_isName : GoodIn wsX3_decide (va_wsS RX3 68 yX3_isName wsX3_isName) := goodIn_app (goodIn_of _ (by decide +kernel)) ggX3_decide_X3_isName
set_option maxRecDepth 20000 in
theorem ggX3_decide_X3_fails : GoodIn wsX3_decide wsX3_fails := goodIn_r _ [18, 19, 26, 27, 28, 29, 30, 31, 32, 33, 34, 35, 36, 37, 38, 39, 40, 41, 42, 43] (by decide +kernel) (by decide +kernel)
set_option maxRecDepth 20000 in
theorem gX3_decide_X3_fails : GoodIn wsX3_decide (wsV RX3 65 RX3 yX3_fails wsX3_fails) := goodIn_app (goodIn_of _ (by decide +kernel)) ggX3_decide_X3_fails
set_option maxRecDepth 20000 in
theorem ggX3_decide_X3_leases : GoodIn wsX3_decide wsX3_leases := goodIn_r _ [23, 1, 7, 4, 5, 24, 25, 26, 27, 28, 29, 30, 31, 32, 33, 34, 35, 36, 37, 38, 39, 40, 41, 42, 43] (by decide +kernel) (by decide +kernel)
set_option maxRecDepth 20000 in
theorem gX3_decide_X3_leases : GoodIn wsX3_decide (wsV RX3 92 RX3 yX3_leases wsX3_leases) := goodIn_app (goodIn_of _ (by decide +kernel)) ggX3_decide_X3_leases
theorem dX3_decide_0 : decode cX3_decide 0 = .ok (.iload_n 1, 1) := by decide +kernel
theorem dX3_decide_1 : decode cX3_decide 1 = .ok (.invokestatic 68, 3) := by decide +kernel
theorem dX3_decide_4 : decode cX3_decide 4 = .ok (.istore_n 3, 1) := by decide +kernel
theorem dX3_decide_5 : decode cX3_decide 5 = .ok (.aload_n 0, 1) := by decide +kernel
theorem dX3_decide_6 : decode cX3_decide 6 = .ok (.iload_n 3, 1) := by decide +kernel
theorem dX3_decide_7 : decode cX3_decide 7 = .ok (.ifCond .ne 7, 3) := by decide +kernel
theorem dX3_decide_10 : decode cX3_decide 10 = .ok (.iconst 1, 1) := by decide +kernel
theorem dX3_decide_11 : decode cX3_decide 11 = .ok (.goto 18, 3) := by decide +kernel
theorem dX3_decide_14 : decode cX3_decide 14 = .ok (.aload_n 0, 1) := by decide +kernel
theorem dX3_decide_15 : decode cX3_decide 15 = .ok (.getfield 13, 3) := by decide +kernel
theorem dX3_decide_18 : decode cX3_decide 18 = .ok (.iload_n 1, 1) := by decide +kernel
theorem dX3_decide_19 : decode cX3_decide 19 = .ok (.iaload, 1) := by decide +kernel
theorem dX3_decide_20 : decode cX3_decide 20 = .ok (.iconst 5, 1) := by decide +kernel
theorem dX3_decide_21 : decode cX3_decide 21 = .ok (.if_icmp .ne 7, 3) := by decide +kernel
theorem dX3_decide_24 : decode cX3_decide 24 = .ok (.iconst 0, 1) := by decide +kernel
theorem dX3_decide_25 : decode cX3_decide 25 = .ok (.goto 4, 3) := by decide +kernel
theorem dX3_decide_28 : decode cX3_decide 28 = .ok (.iconst 2, 1) := by decide +kernel
theorem dX3_decide_29 : decode cX3_decide 29 = .ok (.invokevirtual 65, 3) := by decide +kernel
theorem dX3_decide_32 : decode cX3_decide 32 = .ok (.ifCond .eq 5, 3) := by decide +kernel
theorem dX3_decide_35 : decode cX3_decide 35 = .ok (.iconst 0, 1) := by decide +kernel
theorem dX3_decide_36 : decode cX3_decide 36 = .ok (.ireturn, 1) := by decide +kernel
theorem dX3_decide_37 : decode cX3_decide 37 = .ok (.aload_n 0, 1) := by decide +kernel
theorem dX3_decide_38 : decode cX3_decide 38 = .ok (.getfield 34, 3) := by decide +kernel
theorem dX3_decide_41 : decode cX3_decide 41 = .ok (.iload_n 1, 1) := by decide +kernel
theorem dX3_decide_42 : decode cX3_decide 42 = .ok (.iaload, 1) := by decide +kernel
theorem dX3_decide_43 : decode cX3_decide 43 = .ok (.iconst 1, 1) := by decide +kernel
theorem dX3_decide_44 : decode cX3_decide 44 = .ok (.if_icmp .ne 32, 3) := by decide +kernel
theorem dX3_decide_47 : decode cX3_decide 47 = .ok (.aload_n 0, 1) := by decide +kernel
theorem dX3_decide_48 : decode cX3_decide 48 = .ok (.getfield 13, 3) := by decide +kernel
theorem dX3_decide_51 : decode cX3_decide 51 = .ok (.iload_n 1, 1) := by decide +kernel
theorem dX3_decide_52 : decode cX3_decide 52 = .ok (.iconst 0, 1) := by decide +kernel
theorem dX3_decide_53 : decode cX3_decide 53 = .ok (.iastore, 1) := by decide +kernel
theorem dX3_decide_54 : decode cX3_decide 54 = .ok (.iload_n 2, 1) := by decide +kernel
theorem dX3_decide_55 : decode cX3_decide 55 = .ok (.ifCond .eq 14, 3) := by decide +kernel
theorem dX3_decide_58 : decode cX3_decide 58 = .ok (.aload_n 0, 1) := by decide +kernel
theorem dX3_decide_59 : decode cX3_decide 59 = .ok (.iload_n 1, 1) := by decide +kernel
theorem dX3_decide_60 : decode cX3_decide 60 = .ok (.aload_n 0, 1) := by decide +kernel
theorem dX3_decide_61 : decode cX3_decide 61 = .ok (.getfield 28, 3) := by decide +kernel
theorem dX3_decide_64 : decode cX3_decide 64 = .ok (.iload_n 1, 1) := by decide +kernel
theorem dX3_decide_65 : decode cX3_decide 65 = .ok (.iaload, 1) := by decide +kernel
theorem dX3_decide_66 : decode cX3_decide 66 = .ok (.invokevirtual 92, 3) := by decide +kernel
theorem dX3_decide_69 : decode cX3_decide 69 = .ok (.aload_n 0, 1) := by decide +kernel
theorem dX3_decide_70 : decode cX3_decide 70 = .ok (.getfield 13, 3) := by decide +kernel
theorem dX3_decide_73 : decode cX3_decide 73 = .ok (.iload_n 1, 1) := by decide +kernel
theorem dX3_decide_74 : decode cX3_decide 74 = .ok (.iaload, 1) := by decide +kernel
theorem dX3_decide_75 : decode cX3_decide 75 = .ok (.ireturn, 1) := by decide +kernel
theorem dX3_decide_76 : decode cX3_decide 76 = .ok (.aload_n 0, 1) := by decide +kernel
theorem dX3_decide_77 : decode cX3_decide 77 = .ok (.getfield 13, 3) := by decide +kernel
theorem dX3_decide_80 : decode cX3_decide 80 = .ok (.iload_n 1, 1) := by decide +kernel
theorem dX3_decide_81 : decode cX3_decide 81 = .ok (.aload_n 0, 1) := by decide +kernel
theorem dX3_decide_82 : decode cX3_decide 82 = .ok (.getfield 34, 3) := by decide +kernel
theorem dX3_decide_85 : decode cX3_decide 85 = .ok (.iload_n 1, 1) := by decide +kernel
theorem dX3_decide_86 : decode cX3_decide 86 = .ok (.iaload, 1) := by decide +kernel
theorem dX3_decide_87 : decode cX3_decide 87 = .ok (.iastore, 1) := by decide +kernel
theorem dX3_decide_88 : decode cX3_decide 88 = .ok (.aload_n 0, 1) := by decide +kernel
theorem dX3_decide_89 : decode cX3_decide 89 = .ok (.getfield 19, 3) := by decide +kernel
theorem dX3_decide_92 : decode cX3_decide 92 = .ok (.iload_n 1, 1) := by decide +kernel
theorem dX3_decide_93 : decode cX3_decide 93 = .ok (.dup2, 1) := by decide +kernel
theorem dX3_decide_94 : decode cX3_decide 94 = .ok (.iaload, 1) := by decide +kernel
theorem dX3_decide_95 : decode cX3_decide 95 = .ok (.aload_n 0, 1) := by decide +kernel
theorem dX3_decide_96 : decode cX3_decide 96 = .ok (.getfield 71, 3) := by decide +kernel
theorem dX3_decide_99 : decode cX3_decide 99 = .ok (.aload_n 0, 1) := by decide +kernel
theorem dX3_decide_100 : decode cX3_decide 100 = .ok (.getfield 31, 3) := by decide +kernel
theorem dX3_decide_103 : decode cX3_decide 103 = .ok (.iload_n 1, 1) := by decide +kernel
theorem dX3_decide_104 : decode cX3_decide 104 = .ok (.iaload, 1) := by decide +kernel
theorem dX3_decide_105 : decode cX3_decide 105 = .ok (.isub, 1) := by decide +kernel
theorem dX3_decide_106 : decode cX3_decide 106 = .ok (.iadd, 1) := by decide +kernel
theorem dX3_decide_107 : decode cX3_decide 107 = .ok (.iastore, 1) := by decide +kernel
theorem dX3_decide_108 : decode cX3_decide 108 = .ok (.aload_n 0, 1) := by decide +kernel
theorem dX3_decide_109 : decode cX3_decide 109 = .ok (.getfield 16, 3) := by decide +kernel
theorem dX3_decide_112 : decode cX3_decide 112 = .ok (.iload_n 1, 1) := by decide +kernel
theorem dX3_decide_113 : decode cX3_decide 113 = .ok (.iload_n 2, 1) := by decide +kernel
theorem dX3_decide_114 : decode cX3_decide 114 = .ok (.ifCond .eq 12, 3) := by decide +kernel
theorem dX3_decide_117 : decode cX3_decide 117 = .ok (.aload_n 0, 1) := by decide +kernel
theorem dX3_decide_118 : decode cX3_decide 118 = .ok (.getfield 28, 3) := by decide +kernel
theorem dX3_decide_121 : decode cX3_decide 121 = .ok (.iload_n 1, 1) := by decide +kernel
theorem dX3_decide_122 : decode cX3_decide 122 = .ok (.iaload, 1) := by decide +kernel
theorem dX3_decide_123 : decode cX3_decide 123 = .ok (.goto 9, 3) := by decide +kernel
theorem dX3_decide_126 : decode cX3_decide 126 = .ok (.aload_n 0, 1) := by decide +kernel
theorem dX3_decide_127 : decode cX3_decide 127 = .ok (.getfield 16, 3) := by decide +kernel
theorem dX3_decide_130 : decode cX3_decide 130 = .ok (.iload_n 1, 1) := by decide +kernel
theorem dX3_decide_131 : decode cX3_decide 131 = .ok (.iaload, 1) := by decide +kernel
theorem dX3_decide_132 : decode cX3_decide 132 = .ok (.iastore, 1) := by decide +kernel
theorem dX3_decide_133 : decode cX3_decide 133 = .ok (.aload_n 0, 1) := by decide +kernel
theorem dX3_decide_134 : decode cX3_decide 134 = .ok (.getfield 13, 3) := by decide +kernel
theorem dX3_decide_137 : decode cX3_decide 137 = .ok (.iload_n 1, 1) := by decide +kernel
theorem dX3_decide_138 : decode cX3_decide 138 = .ok (.iaload, 1) := by decide +kernel
theorem dX3_decide_139 : decode cX3_decide 139 = .ok (.ireturn, 1) := by decide +kernel
set_option maxRecDepth 20000 in
theorem ggX3_goesOn_X3_nextOf : GoodIn wsX3_goesOn wsX3_nextOf := goodIn_r _ [8, 2, 9, 36, 37, 38, 39, 40, 41, 42, 43, 44, 45, 46, 47, 48, 49, 50, 51, 52, 53] (by decide +kernel) (by decide +kernel)
set_option maxRecDepth 20000 in
theorem gX3_goesOn_X3_nextOf : GoodIn wsX3_goesOn (wsV RX3 102 RX3 yX3_nextOf wsX3_nextOf) := goodIn_app (goodIn_of _ (by decide +kernel)) ggX3_goesOn_X3_nextOf
set_option maxRecDepth 20000 in
theorem ggX3_goesOn_X3_closes : GoodIn wsX3_goesOn wsX3_closes := goodIn_r _ [13, 14, 2, 15, 16, 17, 7, 18, 19, 20, 21, 22, 23, 24, 25, 26, 27, 28, 29, 30, 31, 32, 33, 3, 9, 1, 34, 35, 36, 37, 38, 39, 40, 41, 42, 43, 44, 45, 46, 47, 48, 49, 50, 51, 52, 53] (by decide +kernel) (by decide +kernel)
set_option maxRecDepth 20000 in
theorem gX3_goesOn_X3_closes : GoodIn wsX3_goesOn (wsV RX3 106 RX3 yX3_closes wsX3_closes) := goodIn_app (goodIn_of _ (by decide +kernel)) ggX3_goesOn_X3_closes
theorem dX3_goesOn_0 : decode cX3_goesOn 0 = .ok (.aload_n 0, 1) := by decide +kernel
theorem dX3_goesOn_1 : decode cX3_goesOn 1 = .ok (.iload_n 1, 1) := by decide +kernel
theorem dX3_goesOn_2 : decode cX3_goesOn 2 = .ok (.invokevirtual 102, 3) := by decide +kernel
theorem dX3_goesOn_5 : decode cX3_goesOn 5 = .ok (.aload_n 0, 1) := by decide +kernel
theorem dX3_goesOn_6 : decode cX3_goesOn 6 = .ok (.getfield 71, 3) := by decide +kernel
theorem dX3_goesOn_9 : decode cX3_goesOn 9 = .ok (.if_icmp .eq 5, 3) := by decide +kernel
theorem dX3_goesOn_12 : decode cX3_goesOn 12 = .ok (.iconst 0, 1) := by decide +kernel
theorem dX3_goesOn_13 : decode cX3_goesOn 13 = .ok (.ireturn, 1) := by decide +kernel
theorem dX3_goesOn_14 : decode cX3_goesOn 14 = .ok (.aload_n 0, 1) := by decide +kernel
theorem dX3_goesOn_15 : decode cX3_goesOn 15 = .ok (.getfield 13, 3) := by decide +kernel
theorem dX3_goesOn_18 : decode cX3_goesOn 18 = .ok (.iload_n 1, 1) := by decide +kernel
theorem dX3_goesOn_19 : decode cX3_goesOn 19 = .ok (.iaload, 1) := by decide +kernel
theorem dX3_goesOn_20 : decode cX3_goesOn 20 = .ok (.iconst 1, 1) := by decide +kernel
theorem dX3_goesOn_21 : decode cX3_goesOn 21 = .ok (.if_icmp .ne 9, 3) := by decide +kernel
theorem dX3_goesOn_24 : decode cX3_goesOn 24 = .ok (.aload_n 0, 1) := by decide +kernel
theorem dX3_goesOn_25 : decode cX3_goesOn 25 = .ok (.iload_n 1, 1) := by decide +kernel
theorem dX3_goesOn_26 : decode cX3_goesOn 26 = .ok (.invokevirtual 106, 3) := by decide +kernel
theorem dX3_goesOn_29 : decode cX3_goesOn 29 = .ok (.ireturn, 1) := by decide +kernel
theorem dX3_goesOn_30 : decode cX3_goesOn 30 = .ok (.aload_n 0, 1) := by decide +kernel
theorem dX3_goesOn_31 : decode cX3_goesOn 31 = .ok (.getfield 13, 3) := by decide +kernel
theorem dX3_goesOn_34 : decode cX3_goesOn 34 = .ok (.iload_n 1, 1) := by decide +kernel
theorem dX3_goesOn_35 : decode cX3_goesOn 35 = .ok (.iaload, 1) := by decide +kernel
theorem dX3_goesOn_36 : decode cX3_goesOn 36 = .ok (.iconst 4, 1) := by decide +kernel
theorem dX3_goesOn_37 : decode cX3_goesOn 37 = .ok (.if_icmp .ne 7, 3) := by decide +kernel
theorem dX3_goesOn_40 : decode cX3_goesOn 40 = .ok (.iconst 1, 1) := by decide +kernel
theorem dX3_goesOn_41 : decode cX3_goesOn 41 = .ok (.goto 4, 3) := by decide +kernel
theorem dX3_goesOn_44 : decode cX3_goesOn 44 = .ok (.iconst 0, 1) := by decide +kernel
theorem dX3_goesOn_45 : decode cX3_goesOn 45 = .ok (.istore_n 2, 1) := by decide +kernel
theorem dX3_goesOn_46 : decode cX3_goesOn 46 = .ok (.aload_n 0, 1) := by decide +kernel
theorem dX3_goesOn_47 : decode cX3_goesOn 47 = .ok (.getfield 13, 3) := by decide +kernel
theorem dX3_goesOn_50 : decode cX3_goesOn 50 = .ok (.iload_n 1, 1) := by decide +kernel
theorem dX3_goesOn_51 : decode cX3_goesOn 51 = .ok (.iload_n 2, 1) := by decide +kernel
theorem dX3_goesOn_52 : decode cX3_goesOn 52 = .ok (.ifCond .eq 7, 3) := by decide +kernel
theorem dX3_goesOn_55 : decode cX3_goesOn 55 = .ok (.iconst 0, 1) := by decide +kernel
theorem dX3_goesOn_56 : decode cX3_goesOn 56 = .ok (.goto 11, 3) := by decide +kernel
theorem dX3_goesOn_59 : decode cX3_goesOn 59 = .ok (.aload_n 0, 1) := by decide +kernel
theorem dX3_goesOn_60 : decode cX3_goesOn 60 = .ok (.getfield 13, 3) := by decide +kernel
theorem dX3_goesOn_63 : decode cX3_goesOn 63 = .ok (.iload_n 1, 1) := by decide +kernel
theorem dX3_goesOn_64 : decode cX3_goesOn 64 = .ok (.iaload, 1) := by decide +kernel
theorem dX3_goesOn_65 : decode cX3_goesOn 65 = .ok (.iconst 1, 1) := by decide +kernel
theorem dX3_goesOn_66 : decode cX3_goesOn 66 = .ok (.iadd, 1) := by decide +kernel
theorem dX3_goesOn_67 : decode cX3_goesOn 67 = .ok (.iastore, 1) := by decide +kernel
theorem dX3_goesOn_68 : decode cX3_goesOn 68 = .ok (.aload_n 0, 1) := by decide +kernel
theorem dX3_goesOn_69 : decode cX3_goesOn 69 = .ok (.getfield 16, 3) := by decide +kernel
theorem dX3_goesOn_72 : decode cX3_goesOn 72 = .ok (.iload_n 1, 1) := by decide +kernel
theorem dX3_goesOn_73 : decode cX3_goesOn 73 = .ok (.iload_n 2, 1) := by decide +kernel
theorem dX3_goesOn_74 : decode cX3_goesOn 74 = .ok (.ifCond .eq 7, 3) := by decide +kernel
theorem dX3_goesOn_77 : decode cX3_goesOn 77 = .ok (.iconst (-1), 1) := by decide +kernel
theorem dX3_goesOn_78 : decode cX3_goesOn 78 = .ok (.goto 9, 3) := by decide +kernel
theorem dX3_goesOn_81 : decode cX3_goesOn 81 = .ok (.aload_n 0, 1) := by decide +kernel
theorem dX3_goesOn_82 : decode cX3_goesOn 82 = .ok (.getfield 16, 3) := by decide +kernel
theorem dX3_goesOn_85 : decode cX3_goesOn 85 = .ok (.iload_n 1, 1) := by decide +kernel
theorem dX3_goesOn_86 : decode cX3_goesOn 86 = .ok (.iaload, 1) := by decide +kernel
theorem dX3_goesOn_87 : decode cX3_goesOn 87 = .ok (.iastore, 1) := by decide +kernel
theorem dX3_goesOn_88 : decode cX3_goesOn 88 = .ok (.iconst 0, 1) := by decide +kernel
theorem dX3_goesOn_89 : decode cX3_goesOn 89 = .ok (.ireturn, 1) := by decide +kernel
set_option maxRecDepth 20000 in
theorem ggX3_pass_X3_isIn : GoodIn wsX3_pass wsX3_isIn := goodIn_r _ [5] (by decide +kernel) (by decide +kernel)
set_option maxRecDepth 20000 in
theorem gX3_pass_X3_isIn : GoodIn wsX3_pass (va_wsS RX3 56 yX3_isIn wsX3_isIn) := goodIn_app (goodIn_of _ (by decide +kernel)) ggX3_pass_X3_isIn
set_option maxRecDepth 20000 in
theorem ggX3_pass_X3_fails : GoodIn wsX3_pass wsX3_fails := goodIn_r _ [9, 10, 48, 49, 50, 51, 52, 53, 54, 55, 56, 57, 58, 59, 60, 61, 62, 63, 64, 65] (by decide +kernel) (by decide +kernel)
set_option maxRecDepth 20000 in
theorem gX3_pass_X3_fails : GoodIn wsX3_pass (wsV RX3 65 RX3 yX3_fails wsX3_fails) := goodIn_app (goodIn_of _ (by decide +kernel)) ggX3_pass_X3_fails
set_option maxRecDepth 20000 in
theorem ggX3_pass_X3_goesOn : GoodIn wsX3_pass wsX3_goesOn := goodIn_r _ [14, 1, 15, 16, 17, 18, 19, 4, 20, 21, 22, 23, 24, 25, 26, 27, 28, 29, 30, 31, 32, 33, 34, 35, 36, 37, 38, 39, 40, 41, 42, 43, 44, 45, 46, 47, 48, 49, 50, 51, 52, 53, 54, 55, 56, 57, 58, 59, 60, 61, 62, 63, 64, 65] (by decide +kernel) (by decide +kernel)
set_option maxRecDepth 20000 in
theorem gX3_pass_X3_goesOn : GoodIn wsX3_pass (wsV RX3 109 RX3 yX3_goesOn wsX3_goesOn) := goodIn_app (goodIn_of _ (by decide +kernel)) ggX3_pass_X3_goesOn
theorem dX3_pass_0 : decode cX3_pass 0 = .ok (.aload_n 0, 1) := by decide +kernel
theorem dX3_pass_1 : decode cX3_pass 1 = .ok (.iload_n 1, 1) := by decide +kernel
theorem dX3_pass_2 : decode cX3_pass 2 = .ok (.iconst 1, 1) := by decide +kernel
theorem dX3_pass_3 : decode cX3_pass 3 = .ok (.sipush 200, 3) := by decide +kernel
theorem dX3_pass_6 : decode cX3_pass 6 = .ok (.invokestatic 56, 3) := by decide +kernel
theorem dX3_pass_9 : decode cX3_pass 9 = .ok (.ifCond .eq 7, 3) := by decide +kernel
theorem dX3_pass_12 : decode cX3_pass 12 = .ok (.iconst 0, 1) := by decide +kernel
theorem dX3_pass_13 : decode cX3_pass 13 = .ok (.goto 4, 3) := by decide +kernel
theorem dX3_pass_16 : decode cX3_pass 16 = .ok (.iconst 1, 1) := by decide +kernel
theorem dX3_pass_17 : decode cX3_pass 17 = .ok (.invokevirtual 65, 3) := by decide +kernel
theorem dX3_pass_20 : decode cX3_pass 20 = .ok (.ifCond .eq 5, 3) := by decide +kernel
theorem dX3_pass_23 : decode cX3_pass 23 = .ok (.iconst 0, 1) := by decide +kernel
theorem dX3_pass_24 : decode cX3_pass 24 = .ok (.ireturn, 1) := by decide +kernel
theorem dX3_pass_25 : decode cX3_pass 25 = .ok (.iconst 0, 1) := by decide +kernel
theorem dX3_pass_26 : decode cX3_pass 26 = .ok (.istore_n 2, 1) := by decide +kernel
theorem dX3_pass_27 : decode cX3_pass 27 = .ok (.iconst 0, 1) := by decide +kernel
theorem dX3_pass_28 : decode cX3_pass 28 = .ok (.istore_n 3, 1) := by decide +kernel
theorem dX3_pass_29 : decode cX3_pass 29 = .ok (.iload_n 3, 1) := by decide +kernel
theorem dX3_pass_30 : decode cX3_pass 30 = .ok (.iload_n 1, 1) := by decide +kernel
theorem dX3_pass_31 : decode cX3_pass 31 = .ok (.if_icmp .ge 44, 3) := by decide +kernel
theorem dX3_pass_34 : decode cX3_pass 34 = .ok (.aload_n 0, 1) := by decide +kernel
theorem dX3_pass_35 : decode cX3_pass 35 = .ok (.dup, 1) := by decide +kernel
theorem dX3_pass_36 : decode cX3_pass 36 = .ok (.getfield 71, 3) := by decide +kernel
theorem dX3_pass_39 : decode cX3_pass 39 = .ok (.iconst 1, 1) := by decide +kernel
theorem dX3_pass_40 : decode cX3_pass 40 = .ok (.iadd, 1) := by decide +kernel
theorem dX3_pass_41 : decode cX3_pass 41 = .ok (.putfield 71, 3) := by decide +kernel
theorem dX3_pass_44 : decode cX3_pass 44 = .ok (.iconst 0, 1) := by decide +kernel
theorem dX3_pass_45 : decode cX3_pass 45 = .ok (.istore 4, 2) := by decide +kernel
theorem dX3_pass_47 : decode cX3_pass 47 = .ok (.iload 4, 2) := by decide +kernel
theorem dX3_pass_49 : decode cX3_pass 49 = .ok (.bipush 16, 2) := by decide +kernel
theorem dX3_pass_51 : decode cX3_pass 51 = .ok (.if_icmp .ge 18, 3) := by decide +kernel
theorem dX3_pass_54 : decode cX3_pass 54 = .ok (.iload_n 2, 1) := by decide +kernel
theorem dX3_pass_55 : decode cX3_pass 55 = .ok (.aload_n 0, 1) := by decide +kernel
theorem dX3_pass_56 : decode cX3_pass 56 = .ok (.iload 4, 2) := by decide +kernel
theorem dX3_pass_58 : decode cX3_pass 58 = .ok (.invokevirtual 109, 3) := by decide +kernel
theorem dX3_pass_61 : decode cX3_pass 61 = .ok (.iadd, 1) := by decide +kernel
theorem dX3_pass_62 : decode cX3_pass 62 = .ok (.istore_n 2, 1) := by decide +kernel
theorem dX3_pass_63 : decode cX3_pass 63 = .ok (.iinc 4 1, 3) := by decide +kernel
theorem dX3_pass_66 : decode cX3_pass 66 = .ok (.goto (-19), 3) := by decide +kernel
theorem dX3_pass_69 : decode cX3_pass 69 = .ok (.iinc 3 1, 3) := by decide +kernel
theorem dX3_pass_72 : decode cX3_pass 72 = .ok (.goto (-43), 3) := by decide +kernel
theorem dX3_pass_75 : decode cX3_pass 75 = .ok (.iload_n 2, 1) := by decide +kernel
theorem dX3_pass_76 : decode cX3_pass 76 = .ok (.ireturn, 1) := by decide +kernel
theorem dX3_today_0 : decode cX3_today 0 = .ok (.aload_n 0, 1) := by decide +kernel
theorem dX3_today_1 : decode cX3_today 1 = .ok (.iconst 0, 1) := by decide +kernel
theorem dX3_today_2 : decode cX3_today 2 = .ok (.putfield 52, 3) := by decide +kernel
theorem dX3_today_5 : decode cX3_today 5 = .ok (.aload_n 0, 1) := by decide +kernel
theorem dX3_today_6 : decode cX3_today 6 = .ok (.getfield 71, 3) := by decide +kernel
theorem dX3_today_9 : decode cX3_today 9 = .ok (.ireturn, 1) := by decide +kernel
theorem dX3_takings_0 : decode cX3_takings 0 = .ok (.aload_n 0, 1) := by decide +kernel
theorem dX3_takings_1 : decode cX3_takings 1 = .ok (.iconst 0, 1) := by decide +kernel
theorem dX3_takings_2 : decode cX3_takings 2 = .ok (.putfield 52, 3) := by decide +kernel
theorem dX3_takings_5 : decode cX3_takings 5 = .ok (.aload_n 0, 1) := by decide +kernel
theorem dX3_takings_6 : decode cX3_takings 6 = .ok (.getfield 77, 3) := by decide +kernel
theorem dX3_takings_9 : decode cX3_takings 9 = .ok (.ireturn, 1) := by decide +kernel
set_option maxRecDepth 20000 in
theorem ggX3_hasRecord_X3_isIn : GoodIn wsX3_hasRecord wsX3_isIn := goodIn_r _ [6] (by decide +kernel) (by decide +kernel)
set_option maxRecDepth 20000 in
theorem gX3_hasRecord_X3_isIn : GoodIn wsX3_hasRecord (va_wsS RX3 56 yX3_isIn wsX3_isIn) := goodIn_app (goodIn_of _ (by decide +kernel)) ggX3_hasRecord_X3_isIn
theorem dX3_hasRecord_0 : decode cX3_hasRecord 0 = .ok (.aload_n 0, 1) := by decide +kernel
theorem dX3_hasRecord_1 : decode cX3_hasRecord 1 = .ok (.getfield 13, 3) := by decide +kernel
theorem dX3_hasRecord_4 : decode cX3_hasRecord 4 = .ok (.iload_n 1, 1) := by decide +kernel
theorem dX3_hasRecord_5 : decode cX3_hasRecord 5 = .ok (.iaload, 1) := by decide +kernel
theorem dX3_hasRecord_6 : decode cX3_hasRecord 6 = .ok (.iconst 2, 1) := by decide +kernel
theorem dX3_hasRecord_7 : decode cX3_hasRecord 7 = .ok (.iconst 3, 1) := by decide +kernel
theorem dX3_hasRecord_8 : decode cX3_hasRecord 8 = .ok (.invokestatic 56, 3) := by decide +kernel
theorem dX3_hasRecord_11 : decode cX3_hasRecord 11 = .ok (.ifCond .ne 23, 3) := by decide +kernel
theorem dX3_hasRecord_14 : decode cX3_hasRecord 14 = .ok (.aload_n 0, 1) := by decide +kernel
theorem dX3_hasRecord_15 : decode cX3_hasRecord 15 = .ok (.getfield 13, 3) := by decide +kernel
theorem dX3_hasRecord_18 : decode cX3_hasRecord 18 = .ok (.iload_n 1, 1) := by decide +kernel
theorem dX3_hasRecord_19 : decode cX3_hasRecord 19 = .ok (.iaload, 1) := by decide +kernel
theorem dX3_hasRecord_20 : decode cX3_hasRecord 20 = .ok (.iconst 5, 1) := by decide +kernel
theorem dX3_hasRecord_21 : decode cX3_hasRecord 21 = .ok (.if_icmp .ne 17, 3) := by decide +kernel
theorem dX3_hasRecord_24 : decode cX3_hasRecord 24 = .ok (.aload_n 0, 1) := by decide +kernel
theorem dX3_hasRecord_25 : decode cX3_hasRecord 25 = .ok (.getfield 34, 3) := by decide +kernel
theorem dX3_hasRecord_28 : decode cX3_hasRecord 28 = .ok (.iload_n 1, 1) := by decide +kernel
theorem dX3_hasRecord_29 : decode cX3_hasRecord 29 = .ok (.iaload, 1) := by decide +kernel
theorem dX3_hasRecord_30 : decode cX3_hasRecord 30 = .ok (.iconst 1, 1) := by decide +kernel
theorem dX3_hasRecord_31 : decode cX3_hasRecord 31 = .ok (.if_icmp .eq 7, 3) := by decide +kernel
theorem dX3_hasRecord_34 : decode cX3_hasRecord 34 = .ok (.iconst 1, 1) := by decide +kernel
theorem dX3_hasRecord_35 : decode cX3_hasRecord 35 = .ok (.goto 4, 3) := by decide +kernel
theorem dX3_hasRecord_38 : decode cX3_hasRecord 38 = .ok (.iconst 0, 1) := by decide +kernel
theorem dX3_hasRecord_39 : decode cX3_hasRecord 39 = .ok (.ireturn, 1) := by decide +kernel
set_option maxRecDepth 20000 in
theorem ggX3_answerOf_X3_hasRecord : GoodIn wsX3_answerOf wsX3_hasRecord := goodIn_r _ [6, 7, 8, 9, 10, 5, 11, 12, 13, 14, 15, 16, 17, 18, 19, 20, 21, 22, 23, 24, 25, 26, 27, 28, 29] (by decide +kernel) (by decide +kernel)
set_option maxRecDepth 20000 in
theorem gX3_answerOf_X3_hasRecord : GoodIn wsX3_answerOf (wsV RX3 112 RX3 yX3_hasRecord wsX3_hasRecord) := goodIn_app (goodIn_of _ (by decide +kernel)) ggX3_answerOf_X3_hasRecord
theorem dX3_answerOf_0 : decode cX3_answerOf 0 = .ok (.aload_n 0, 1) := by decide +kernel
theorem dX3_answerOf_1 : decode cX3_answerOf 1 = .ok (.iload_n 1, 1) := by decide +kernel
theorem dX3_answerOf_2 : decode cX3_answerOf 2 = .ok (.invokevirtual 112, 3) := by decide +kernel
theorem dX3_answerOf_5 : decode cX3_answerOf 5 = .ok (.ifCond .eq 12, 3) := by decide +kernel
theorem dX3_answerOf_8 : decode cX3_answerOf 8 = .ok (.aload_n 0, 1) := by decide +kernel
theorem dX3_answerOf_9 : decode cX3_answerOf 9 = .ok (.getfield 22, 3) := by decide +kernel
theorem dX3_answerOf_12 : decode cX3_answerOf 12 = .ok (.iload_n 1, 1) := by decide +kernel
theorem dX3_answerOf_13 : decode cX3_answerOf 13 = .ok (.iaload, 1) := by decide +kernel
theorem dX3_answerOf_14 : decode cX3_answerOf 14 = .ok (.goto 4, 3) := by decide +kernel
theorem dX3_answerOf_17 : decode cX3_answerOf 17 = .ok (.iconst (-1), 1) := by decide +kernel
theorem dX3_answerOf_18 : decode cX3_answerOf 18 = .ok (.ireturn, 1) := by decide +kernel
set_option maxRecDepth 20000 in
theorem ggX3_isPlace_X3_isIn : GoodIn wsX3_isPlace wsX3_isIn := goodIn_r _ [4] (by decide +kernel) (by decide +kernel)
set_option maxRecDepth 20000 in
theorem gX3_isPlace_X3_isIn : GoodIn wsX3_isPlace (va_wsS RX3 56 yX3_isIn wsX3_isIn) := goodIn_app (goodIn_of _ (by decide +kernel)) ggX3_isPlace_X3_isIn
set_option maxRecDepth 20000 in
theorem ggX3_isPlace_X3_isName : GoodIn wsX3_isPlace wsX3_isName := goodIn_r _ [7, 1, 2, 3, 4] (by decide +kernel) (by decide +kernel)
set_option maxRecDepth 20000 in
theorem gX3_isPlace_X3_isName : GoodIn wsX3_isPlace (va_wsS RX3 68 yX3_isName wsX3_isName) := goodIn_app (goodIn_of _ (by decide +kernel)) ggX3_isPlace_X3_isName
theorem dX3_isPlace_0 : decode cX3_isPlace 0 = .ok (.iload_n 0, 1) := by decide +kernel
theorem dX3_isPlace_1 : decode cX3_isPlace 1 = .ok (.iconst 0, 1) := by decide +kernel
theorem dX3_isPlace_2 : decode cX3_isPlace 2 = .ok (.iconst 2, 1) := by decide +kernel
theorem dX3_isPlace_3 : decode cX3_isPlace 3 = .ok (.invokestatic 56, 3) := by decide +kernel
theorem dX3_isPlace_6 : decode cX3_isPlace 6 = .ok (.ifCond .eq 14, 3) := by decide +kernel
theorem dX3_isPlace_9 : decode cX3_isPlace 9 = .ok (.iload_n 1, 1) := by decide +kernel
theorem dX3_isPlace_10 : decode cX3_isPlace 10 = .ok (.invokestatic 68, 3) := by decide +kernel
theorem dX3_isPlace_13 : decode cX3_isPlace 13 = .ok (.ifCond .eq 7, 3) := by decide +kernel
theorem dX3_isPlace_16 : decode cX3_isPlace 16 = .ok (.iconst 1, 1) := by decide +kernel
theorem dX3_isPlace_17 : decode cX3_isPlace 17 = .ok (.goto 4, 3) := by decide +kernel
theorem dX3_isPlace_20 : decode cX3_isPlace 20 = .ok (.iconst 0, 1) := by decide +kernel
theorem dX3_isPlace_21 : decode cX3_isPlace 21 = .ok (.ireturn, 1) := by decide +kernel
theorem dX3_isYoung_0 : decode cX3_isYoung 0 = .ok (.aload_n 0, 1) := by decide +kernel
theorem dX3_isYoung_1 : decode cX3_isYoung 1 = .ok (.getfield 43, 3) := by decide +kernel
theorem dX3_isYoung_4 : decode cX3_isYoung 4 = .ok (.iload_n 1, 1) := by decide +kernel
theorem dX3_isYoung_5 : decode cX3_isYoung 5 = .ok (.iaload, 1) := by decide +kernel
theorem dX3_isYoung_6 : decode cX3_isYoung 6 = .ok (.iconst (-1), 1) := by decide +kernel
theorem dX3_isYoung_7 : decode cX3_isYoung 7 = .ok (.if_icmp .eq 27, 3) := by decide +kernel
theorem dX3_isYoung_10 : decode cX3_isYoung 10 = .ok (.aload_n 0, 1) := by decide +kernel
theorem dX3_isYoung_11 : decode cX3_isYoung 11 = .ok (.getfield 71, 3) := by decide +kernel
theorem dX3_isYoung_14 : decode cX3_isYoung 14 = .ok (.aload_n 0, 1) := by decide +kernel
theorem dX3_isYoung_15 : decode cX3_isYoung 15 = .ok (.getfield 43, 3) := by decide +kernel
theorem dX3_isYoung_18 : decode cX3_isYoung 18 = .ok (.iload_n 1, 1) := by decide +kernel
theorem dX3_isYoung_19 : decode cX3_isYoung 19 = .ok (.iaload, 1) := by decide +kernel
theorem dX3_isYoung_20 : decode cX3_isYoung 20 = .ok (.isub, 1) := by decide +kernel
theorem dX3_isYoung_21 : decode cX3_isYoung 21 = .ok (.aload_n 0, 1) := by decide +kernel
theorem dX3_isYoung_22 : decode cX3_isYoung 22 = .ok (.getfield 49, 3) := by decide +kernel
theorem dX3_isYoung_25 : decode cX3_isYoung 25 = .ok (.iload_n 1, 1) := by decide +kernel
theorem dX3_isYoung_26 : decode cX3_isYoung 26 = .ok (.iaload, 1) := by decide +kernel
theorem dX3_isYoung_27 : decode cX3_isYoung 27 = .ok (.if_icmp .ge 7, 3) := by decide +kernel
theorem dX3_isYoung_30 : decode cX3_isYoung 30 = .ok (.iconst 1, 1) := by decide +kernel
theorem dX3_isYoung_31 : decode cX3_isYoung 31 = .ok (.goto 4, 3) := by decide +kernel
theorem dX3_isYoung_34 : decode cX3_isYoung 34 = .ok (.iconst 0, 1) := by decide +kernel
theorem dX3_isYoung_35 : decode cX3_isYoung 35 = .ok (.ireturn, 1) := by decide +kernel
set_option maxRecDepth 20000 in
theorem ggX3_lookUp_X3_isPlace : GoodIn wsX3_lookUp wsX3_isPlace := goodIn_r _ [9, 10, 11, 8, 12, 13, 14, 15] (by decide +kernel) (by decide +kernel)
set_option maxRecDepth 20000 in
theorem gX3_lookUp_X3_isPlace : GoodIn wsX3_lookUp (va_wsS RX3 115 yX3_isPlace wsX3_isPlace) := goodIn_app (goodIn_of _ (by decide +kernel)) ggX3_lookUp_X3_isPlace
set_option maxRecDepth 20000 in
theorem ggX3_lookUp_X3_fails : GoodIn wsX3_lookUp wsX3_fails := goodIn_r _ [19, 20, 36, 37, 38, 39, 40, 41, 42, 43, 44, 45, 46, 47, 48, 49, 50, 51, 52, 53] (by decide +kernel) (by decide +kernel)
set_option maxRecDepth 20000 in
theorem gX3_lookUp_X3_fails : GoodIn wsX3_lookUp (wsV RX3 65 RX3 yX3_fails wsX3_fails) := goodIn_app (goodIn_of _ (by decide +kernel)) ggX3_lookUp_X3_fails
set_option maxRecDepth 20000 in
theorem ggX3_lookUp_X3_isYoung : GoodIn wsX3_lookUp wsX3_isYoung := goodIn_r _ [24, 1, 2, 4, 36, 37, 38, 39, 40, 41, 42, 43, 44, 45, 46, 47, 48, 49, 50, 51, 52, 53] (by decide +kernel) (by decide +kernel)
set_option maxRecDepth 20000 in
theorem gX3_lookUp_X3_isYoung : GoodIn wsX3_lookUp (wsV RX3 119 RX3 yX3_isYoung wsX3_isYoung) := goodIn_app (goodIn_of _ (by decide +kernel)) ggX3_lookUp_X3_isYoung
set_option maxRecDepth 20000 in
theorem ggX3_lookUp_X3_answerOf : GoodIn wsX3_lookUp wsX3_answerOf := goodIn_r _ [28, 29, 30, 31, 32, 8, 33, 34, 35, 10, 11, 12, 36, 37, 38, 39, 40, 41, 42, 43, 44, 45, 46, 47, 48, 49, 50, 51, 52, 53] (by decide +kernel) (by decide +kernel)
set_option maxRecDepth 20000 in
theorem gX3_lookUp_X3_answerOf : GoodIn wsX3_lookUp (wsV RX3 122 RX3 yX3_answerOf wsX3_answerOf) := goodIn_app (goodIn_of _ (by decide +kernel)) ggX3_lookUp_X3_answerOf
set_option maxRecDepth 20000 in
theorem ggX3_lookUp_X3_hasRecord : GoodIn wsX3_lookUp wsX3_hasRecord := goodIn_r _ [33, 34, 35, 10, 11, 8, 12, 36, 37, 38, 39, 40, 41, 42, 43, 44, 45, 46, 47, 48, 49, 50, 51, 52, 53] (by decide +kernel) (by decide +kernel)
set_option maxRecDepth 20000 in
theorem gX3_lookUp_X3_hasRecord : GoodIn wsX3_lookUp (wsV RX3 112 RX3 yX3_hasRecord wsX3_hasRecord) := goodIn_app (goodIn_of _ (by decide +kernel)) ggX3_lookUp_X3_hasRecord
theorem dX3_lookUp_0 : decode cX3_lookUp 0 = .ok (.aload_n 0, 1) := by decide +kernel
theorem dX3_lookUp_1 : decode cX3_lookUp 1 = .ok (.iload_n 1, 1) := by decide +kernel
theorem dX3_lookUp_2 : decode cX3_lookUp 2 = .ok (.iload_n 2, 1) := by decide +kernel
theorem dX3_lookUp_3 : decode cX3_lookUp 3 = .ok (.invokestatic 115, 3) := by decide +kernel
theorem dX3_lookUp_6 : decode cX3_lookUp 6 = .ok (.ifCond .eq 7, 3) := by decide +kernel
theorem dX3_lookUp_9 : decode cX3_lookUp 9 = .ok (.iconst 0, 1) := by decide +kernel
theorem dX3_lookUp_10 : decode cX3_lookUp 10 = .ok (.goto 4, 3) := by decide +kernel
theorem dX3_lookUp_13 : decode cX3_lookUp 13 = .ok (.iconst 1, 1) := by decide +kernel
theorem dX3_lookUp_14 : decode cX3_lookUp 14 = .ok (.invokevirtual 65, 3) := by decide +kernel
theorem dX3_lookUp_17 : decode cX3_lookUp 17 = .ok (.ifCond .eq 5, 3) := by decide +kernel
theorem dX3_lookUp_20 : decode cX3_lookUp 20 = .ok (.iconst 0, 1) := by decide +kernel
theorem dX3_lookUp_21 : decode cX3_lookUp 21 = .ok (.ireturn, 1) := by decide +kernel
theorem dX3_lookUp_22 : decode cX3_lookUp 22 = .ok (.bipush 16, 2) := by decide +kernel
theorem dX3_lookUp_24 : decode cX3_lookUp 24 = .ok (.iload_n 1, 1) := by decide +kernel
theorem dX3_lookUp_25 : decode cX3_lookUp 25 = .ok (.imul, 1) := by decide +kernel
theorem dX3_lookUp_26 : decode cX3_lookUp 26 = .ok (.iload_n 2, 1) := by decide +kernel
theorem dX3_lookUp_27 : decode cX3_lookUp 27 = .ok (.iadd, 1) := by decide +kernel
theorem dX3_lookUp_28 : decode cX3_lookUp 28 = .ok (.istore_n 3, 1) := by decide +kernel
theorem dX3_lookUp_29 : decode cX3_lookUp 29 = .ok (.aload_n 0, 1) := by decide +kernel
theorem dX3_lookUp_30 : decode cX3_lookUp 30 = .ok (.iload_n 3, 1) := by decide +kernel
theorem dX3_lookUp_31 : decode cX3_lookUp 31 = .ok (.invokevirtual 119, 3) := by decide +kernel
theorem dX3_lookUp_34 : decode cX3_lookUp 34 = .ok (.ifCond .ne 48, 3) := by decide +kernel
theorem dX3_lookUp_37 : decode cX3_lookUp 37 = .ok (.aload_n 0, 1) := by decide +kernel
theorem dX3_lookUp_38 : decode cX3_lookUp 38 = .ok (.getfield 43, 3) := by decide +kernel
theorem dX3_lookUp_41 : decode cX3_lookUp 41 = .ok (.iload_n 3, 1) := by decide +kernel
theorem dX3_lookUp_42 : decode cX3_lookUp 42 = .ok (.aload_n 0, 1) := by decide +kernel
theorem dX3_lookUp_43 : decode cX3_lookUp 43 = .ok (.getfield 71, 3) := by decide +kernel
theorem dX3_lookUp_46 : decode cX3_lookUp 46 = .ok (.iastore, 1) := by decide +kernel
theorem dX3_lookUp_47 : decode cX3_lookUp 47 = .ok (.aload_n 0, 1) := by decide +kernel
theorem dX3_lookUp_48 : decode cX3_lookUp 48 = .ok (.getfield 46, 3) := by decide +kernel
theorem dX3_lookUp_51 : decode cX3_lookUp 51 = .ok (.iload_n 3, 1) := by decide +kernel
theorem dX3_lookUp_52 : decode cX3_lookUp 52 = .ok (.aload_n 0, 1) := by decide +kernel
theorem dX3_lookUp_53 : decode cX3_lookUp 53 = .ok (.iload_n 2, 1) := by decide +kernel
theorem dX3_lookUp_54 : decode cX3_lookUp 54 = .ok (.invokevirtual 122, 3) := by decide +kernel
theorem dX3_lookUp_57 : decode cX3_lookUp 57 = .ok (.iastore, 1) := by decide +kernel
theorem dX3_lookUp_58 : decode cX3_lookUp 58 = .ok (.aload_n 0, 1) := by decide +kernel
theorem dX3_lookUp_59 : decode cX3_lookUp 59 = .ok (.getfield 49, 3) := by decide +kernel
theorem dX3_lookUp_62 : decode cX3_lookUp 62 = .ok (.iload_n 3, 1) := by decide +kernel
theorem dX3_lookUp_63 : decode cX3_lookUp 63 = .ok (.aload_n 0, 1) := by decide +kernel
theorem dX3_lookUp_64 : decode cX3_lookUp 64 = .ok (.iload_n 2, 1) := by decide +kernel
theorem dX3_lookUp_65 : decode cX3_lookUp 65 = .ok (.invokevirtual 112, 3) := by decide +kernel
theorem dX3_lookUp_68 : decode cX3_lookUp 68 = .ok (.ifCond .eq 12, 3) := by decide +kernel
theorem dX3_lookUp_71 : decode cX3_lookUp 71 = .ok (.aload_n 0, 1) := by decide +kernel
theorem dX3_lookUp_72 : decode cX3_lookUp 72 = .ok (.getfield 25, 3) := by decide +kernel
theorem dX3_lookUp_75 : decode cX3_lookUp 75 = .ok (.iload_n 2, 1) := by decide +kernel
theorem dX3_lookUp_76 : decode cX3_lookUp 76 = .ok (.iaload, 1) := by decide +kernel
theorem dX3_lookUp_77 : decode cX3_lookUp 77 = .ok (.goto 4, 3) := by decide +kernel
theorem dX3_lookUp_80 : decode cX3_lookUp 80 = .ok (.iconst 5, 1) := by decide +kernel
theorem dX3_lookUp_81 : decode cX3_lookUp 81 = .ok (.iastore, 1) := by decide +kernel
theorem dX3_lookUp_82 : decode cX3_lookUp 82 = .ok (.aload_n 0, 1) := by decide +kernel
theorem dX3_lookUp_83 : decode cX3_lookUp 83 = .ok (.getfield 46, 3) := by decide +kernel
theorem dX3_lookUp_86 : decode cX3_lookUp 86 = .ok (.iload_n 3, 1) := by decide +kernel
theorem dX3_lookUp_87 : decode cX3_lookUp 87 = .ok (.iaload, 1) := by decide +kernel
theorem dX3_lookUp_88 : decode cX3_lookUp 88 = .ok (.ireturn, 1) := by decide +kernel
set_option maxRecDepth 20000 in
theorem ggX3_isStale_X3_isPlace : GoodIn wsX3_isStale wsX3_isPlace := goodIn_r _ [5, 6, 7, 4, 8, 9, 10, 11] (by decide +kernel) (by decide +kernel)
set_option maxRecDepth 20000 in
theorem gX3_isStale_X3_isPlace : GoodIn wsX3_isStale (va_wsS RX3 115 yX3_isPlace wsX3_isPlace) := goodIn_app (goodIn_of _ (by decide +kernel)) ggX3_isStale_X3_isPlace
set_option maxRecDepth 20000 in
theorem ggX3_isStale_X3_fails : GoodIn wsX3_isStale wsX3_fails := goodIn_r _ [15, 16, 35, 36, 37, 38, 39, 40, 41, 42, 43, 44, 45, 46, 47, 48, 49, 50, 51, 52] (by decide +kernel) (by decide +kernel)
set_option maxRecDepth 20000 in
theorem gX3_isStale_X3_fails : GoodIn wsX3_isStale (wsV RX3 65 RX3 yX3_fails wsX3_fails) := goodIn_app (goodIn_of _ (by decide +kernel)) ggX3_isStale_X3_fails
set_option maxRecDepth 20000 in
theorem ggX3_isStale_X3_isYoung : GoodIn wsX3_isStale wsX3_isYoung := goodIn_r _ [20, 21, 22, 23, 35, 36, 37, 38, 39, 40, 41, 42, 43, 44, 45, 46, 47, 48, 49, 50, 51, 52] (by decide +kernel) (by decide +kernel)
set_option maxRecDepth 20000 in
theorem gX3_isStale_X3_isYoung : GoodIn wsX3_isStale (wsV RX3 119 RX3 yX3_isYoung wsX3_isYoung) := goodIn_app (goodIn_of _ (by decide +kernel)) ggX3_isStale_X3_isYoung
set_option maxRecDepth 20000 in
theorem ggX3_isStale_X3_answerOf : GoodIn wsX3_isStale wsX3_answerOf := goodIn_r _ [27, 28, 29, 30, 31, 4, 32, 33, 34, 6, 7, 8, 35, 36, 37, 38, 39, 40, 41, 42, 43, 44, 45, 46, 47, 48, 49, 50, 51, 52] (by decide +kernel) (by decide +kernel)
set_option maxRecDepth 20000 in
theorem gX3_isStale_X3_answerOf : GoodIn wsX3_isStale (wsV RX3 122 RX3 yX3_answerOf wsX3_answerOf) := goodIn_app (goodIn_of _ (by decide +kernel)) ggX3_isStale_X3_answerOf
theorem dX3_isStale_0 : decode cX3_isStale 0 = .ok (.bipush 16, 2) := by decide +kernel
theorem dX3_isStale_2 : decode cX3_isStale 2 = .ok (.iload_n 1, 1) := by decide +kernel
theorem dX3_isStale_3 : decode cX3_isStale 3 = .ok (.imul, 1) := by decide +kernel
theorem dX3_isStale_4 : decode cX3_isStale 4 = .ok (.iload_n 2, 1) := by decide +kernel
theorem dX3_isStale_5 : decode cX3_isStale 5 = .ok (.iadd, 1) := by decide +kernel
theorem dX3_isStale_6 : decode cX3_isStale 6 = .ok (.istore_n 3, 1) := by decide +kernel
theorem dX3_isStale_7 : decode cX3_isStale 7 = .ok (.aload_n 0, 1) := by decide +kernel
theorem dX3_isStale_8 : decode cX3_isStale 8 = .ok (.iload_n 1, 1) := by decide +kernel
theorem dX3_isStale_9 : decode cX3_isStale 9 = .ok (.iload_n 2, 1) := by decide +kernel
theorem dX3_isStale_10 : decode cX3_isStale 10 = .ok (.invokestatic 115, 3) := by decide +kernel
theorem dX3_isStale_13 : decode cX3_isStale 13 = .ok (.ifCond .eq 7, 3) := by decide +kernel
theorem dX3_isStale_16 : decode cX3_isStale 16 = .ok (.iconst 0, 1) := by decide +kernel
theorem dX3_isStale_17 : decode cX3_isStale 17 = .ok (.goto 4, 3) := by decide +kernel
theorem dX3_isStale_20 : decode cX3_isStale 20 = .ok (.iconst 1, 1) := by decide +kernel
theorem dX3_isStale_21 : decode cX3_isStale 21 = .ok (.invokevirtual 65, 3) := by decide +kernel
theorem dX3_isStale_24 : decode cX3_isStale 24 = .ok (.ifCond .ne 29, 3) := by decide +kernel
theorem dX3_isStale_27 : decode cX3_isStale 27 = .ok (.aload_n 0, 1) := by decide +kernel
theorem dX3_isStale_28 : decode cX3_isStale 28 = .ok (.iload_n 3, 1) := by decide +kernel
theorem dX3_isStale_29 : decode cX3_isStale 29 = .ok (.invokevirtual 119, 3) := by decide +kernel
theorem dX3_isStale_32 : decode cX3_isStale 32 = .ok (.ifCond .eq 21, 3) := by decide +kernel
theorem dX3_isStale_35 : decode cX3_isStale 35 = .ok (.aload_n 0, 1) := by decide +kernel
theorem dX3_isStale_36 : decode cX3_isStale 36 = .ok (.getfield 46, 3) := by decide +kernel
theorem dX3_isStale_39 : decode cX3_isStale 39 = .ok (.iload_n 3, 1) := by decide +kernel
theorem dX3_isStale_40 : decode cX3_isStale 40 = .ok (.iaload, 1) := by decide +kernel
theorem dX3_isStale_41 : decode cX3_isStale 41 = .ok (.aload_n 0, 1) := by decide +kernel
theorem dX3_isStale_42 : decode cX3_isStale 42 = .ok (.iload_n 2, 1) := by decide +kernel
theorem dX3_isStale_43 : decode cX3_isStale 43 = .ok (.invokevirtual 122, 3) := by decide +kernel
theorem dX3_isStale_46 : decode cX3_isStale 46 = .ok (.if_icmp .eq 7, 3) := by decide +kernel
theorem dX3_isStale_49 : decode cX3_isStale 49 = .ok (.iconst 1, 1) := by decide +kernel
theorem dX3_isStale_50 : decode cX3_isStale 50 = .ok (.goto 4, 3) := by decide +kernel
theorem dX3_isStale_53 : decode cX3_isStale 53 = .ok (.iconst 0, 1) := by decide +kernel
theorem dX3_isStale_54 : decode cX3_isStale 54 = .ok (.ireturn, 1) := by decide +kernel
set_option maxRecDepth 20000 in
theorem ggX3_flush_X3_isIn : GoodIn wsX3_flush wsX3_isIn := goodIn_r _ [5] (by decide +kernel) (by decide +kernel)
set_option maxRecDepth 20000 in
theorem gX3_flush_X3_isIn : GoodIn wsX3_flush (va_wsS RX3 56 yX3_isIn wsX3_isIn) := goodIn_app (goodIn_of _ (by decide +kernel)) ggX3_flush_X3_isIn
set_option maxRecDepth 20000 in
theorem ggX3_flush_X3_fails : GoodIn wsX3_flush wsX3_fails := goodIn_r _ [9, 10, 11, 12, 13, 14, 15, 16, 17, 18, 19, 20, 21, 22, 23, 24, 25, 26, 27, 28] (by decide +kernel) (by decide +kernel)
set_option maxRecDepth 20000 in
theorem gX3_flush_X3_fails : GoodIn wsX3_flush (wsV RX3 65 RX3 yX3_fails wsX3_fails) := goodIn_app (goodIn_of _ (by decide +kernel)) ggX3_flush_X3_fails
theorem dX3_flush_0 : decode cX3_flush 0 = .ok (.aload_n 0, 1) := by decide +kernel
theorem dX3_flush_1 : decode cX3_flush 1 = .ok (.iload_n 1, 1) := by decide +kernel
theorem dX3_flush_2 : decode cX3_flush 2 = .ok (.iconst 0, 1) := by decide +kernel
theorem dX3_flush_3 : decode cX3_flush 3 = .ok (.iconst 2, 1) := by decide +kernel
theorem dX3_flush_4 : decode cX3_flush 4 = .ok (.invokestatic 56, 3) := by decide +kernel
theorem dX3_flush_7 : decode cX3_flush 7 = .ok (.ifCond .eq 7, 3) := by decide +kernel
theorem dX3_flush_10 : decode cX3_flush 10 = .ok (.iconst 0, 1) := by decide +kernel
theorem dX3_flush_11 : decode cX3_flush 11 = .ok (.goto 4, 3) := by decide +kernel
theorem dX3_flush_14 : decode cX3_flush 14 = .ok (.iconst 1, 1) := by decide +kernel
theorem dX3_flush_15 : decode cX3_flush 15 = .ok (.invokevirtual 65, 3) := by decide +kernel
theorem dX3_flush_18 : decode cX3_flush 18 = .ok (.ifCond .eq 5, 3) := by decide +kernel
theorem dX3_flush_21 : decode cX3_flush 21 = .ok (.iconst 0, 1) := by decide +kernel
theorem dX3_flush_22 : decode cX3_flush 22 = .ok (.ireturn, 1) := by decide +kernel
theorem dX3_flush_23 : decode cX3_flush 23 = .ok (.iconst 0, 1) := by decide +kernel
theorem dX3_flush_24 : decode cX3_flush 24 = .ok (.istore_n 2, 1) := by decide +kernel
theorem dX3_flush_25 : decode cX3_flush 25 = .ok (.bipush 16, 2) := by decide +kernel
theorem dX3_flush_27 : decode cX3_flush 27 = .ok (.iload_n 1, 1) := by decide +kernel
theorem dX3_flush_28 : decode cX3_flush 28 = .ok (.imul, 1) := by decide +kernel
theorem dX3_flush_29 : decode cX3_flush 29 = .ok (.istore_n 3, 1) := by decide +kernel
theorem dX3_flush_30 : decode cX3_flush 30 = .ok (.iload_n 3, 1) := by decide +kernel
theorem dX3_flush_31 : decode cX3_flush 31 = .ok (.bipush 16, 2) := by decide +kernel
theorem dX3_flush_33 : decode cX3_flush 33 = .ok (.iload_n 1, 1) := by decide +kernel
theorem dX3_flush_34 : decode cX3_flush 34 = .ok (.imul, 1) := by decide +kernel
theorem dX3_flush_35 : decode cX3_flush 35 = .ok (.bipush 16, 2) := by decide +kernel
theorem dX3_flush_37 : decode cX3_flush 37 = .ok (.iadd, 1) := by decide +kernel
theorem dX3_flush_38 : decode cX3_flush 38 = .ok (.if_icmp .ge 34, 3) := by decide +kernel
theorem dX3_flush_41 : decode cX3_flush 41 = .ok (.iload_n 2, 1) := by decide +kernel
theorem dX3_flush_42 : decode cX3_flush 42 = .ok (.aload_n 0, 1) := by decide +kernel
theorem dX3_flush_43 : decode cX3_flush 43 = .ok (.getfield 43, 3) := by decide +kernel
theorem dX3_flush_46 : decode cX3_flush 46 = .ok (.iload_n 3, 1) := by decide +kernel
theorem dX3_flush_47 : decode cX3_flush 47 = .ok (.iaload, 1) := by decide +kernel
theorem dX3_flush_48 : decode cX3_flush 48 = .ok (.iconst (-1), 1) := by decide +kernel
theorem dX3_flush_49 : decode cX3_flush 49 = .ok (.if_icmp .ne 7, 3) := by decide +kernel
theorem dX3_flush_52 : decode cX3_flush 52 = .ok (.iconst 0, 1) := by decide +kernel
theorem dX3_flush_53 : decode cX3_flush 53 = .ok (.goto 4, 3) := by decide +kernel
theorem dX3_flush_56 : decode cX3_flush 56 = .ok (.iconst 1, 1) := by decide +kernel
theorem dX3_flush_57 : decode cX3_flush 57 = .ok (.iadd, 1) := by decide +kernel
theorem dX3_flush_58 : decode cX3_flush 58 = .ok (.istore_n 2, 1) := by decide +kernel
theorem dX3_flush_59 : decode cX3_flush 59 = .ok (.aload_n 0, 1) := by decide +kernel
theorem dX3_flush_60 : decode cX3_flush 60 = .ok (.getfield 43, 3) := by decide +kernel
theorem dX3_flush_63 : decode cX3_flush 63 = .ok (.iload_n 3, 1) := by decide +kernel
theorem dX3_flush_64 : decode cX3_flush 64 = .ok (.iconst (-1), 1) := by decide +kernel
theorem dX3_flush_65 : decode cX3_flush 65 = .ok (.iastore, 1) := by decide +kernel
theorem dX3_flush_66 : decode cX3_flush 66 = .ok (.iinc 3 1, 3) := by decide +kernel
theorem dX3_flush_69 : decode cX3_flush 69 = .ok (.goto (-39), 3) := by decide +kernel
theorem dX3_flush_72 : decode cX3_flush 72 = .ok (.iload_n 2, 1) := by decide +kernel
theorem dX3_flush_73 : decode cX3_flush 73 = .ok (.ireturn, 1) := by decide +kernel
set_option maxRecDepth 20000 in
theorem ggJ0_length_8abf5_J0_coder_7d493 : GoodIn wsJ0_length_8abf5 wsJ0_coder_7d493 := goodIn_r _ [6, 7, 8] (by decide +kernel) (by decide +kernel)
set_option maxRecDepth 20000 in
theorem gJ0_length_8abf5_J0_coder_7d493 : GoodIn wsJ0_length_8abf5 (wsV RJ0 335 RJ0 yJ0_coder_7d493 wsJ0_coder_7d493) := goodIn_app (goodIn_of _ (by decide +kernel)) ggJ0_length_8abf5_J0_coder_7d493
theorem dJ0_length_8abf5_0 : decode cJ0_length_8abf5 0 = .ok (.aload_n 0, 1) := by decide +kernel
theorem dJ0_length_8abf5_1 : decode cJ0_length_8abf5 1 = .ok (.getfield 9, 3) := by decide +kernel
theorem dJ0_length_8abf5_4 : decode cJ0_length_8abf5 4 = .ok (.arraylength, 1) := by decide +kernel
theorem dJ0_length_8abf5_5 : decode cJ0_length_8abf5 5 = .ok (.aload_n 0, 1) := by decide +kernel
theorem dJ0_length_8abf5_6 : decode cJ0_length_8abf5 6 = .ok (.invokevirtual 335, 3) := by decide +kernel
theorem dJ0_length_8abf5_9 : decode cJ0_length_8abf5 9 = .ok (.ishr, 1) := by decide +kernel
theorem dJ0_length_8abf5_10 : decode cJ0_length_8abf5 10 = .ok (.ireturn, 1) := by decide +kernel
set_option maxRecDepth 20000 in
theorem ggJ0_charAt_5068e_J0_isLatin1_aae02 : GoodIn wsJ0_charAt_5068e wsJ0_isLatin1_aae02 := goodIn_r _ [6, 7, 8] (by decide +kernel) (by decide +kernel)
set_option maxRecDepth 20000 in
theorem gJ0_charAt_5068e_J0_isLatin1_aae02 : GoodIn wsJ0_charAt_5068e (wsV RJ0 492 RJ0 yJ0_isLatin1_aae02 wsJ0_isLatin1_aae02) := goodIn_app (goodIn_of _ (by decide +kernel)) ggJ0_charAt_5068e_J0_isLatin1_aae02
set_option maxRecDepth 20000 in
theorem ggJ0_charAt_5068e_J1_charAt_3b067 : GoodIn wsJ0_charAt_5068e wsJ1_charAt_3b067 := goodIn_r _ [12, 13, 14, 5, 15, 16, 17, 18, 19, 20] (by decide +kernel) (by decide +kernel)
set_option maxRecDepth 20000 in
theorem gJ0_charAt_5068e_J1_charAt_3b067 : GoodIn wsJ0_charAt_5068e (va_wsS RJ0 495 yJ1_charAt_3b067 wsJ1_charAt_3b067) := goodIn_app (goodIn_of _ (by decide +kernel)) ggJ0_charAt_5068e_J1_charAt_3b067
set_option maxRecDepth 20000 in
theorem ggJ0_charAt_5068e_J2_charAt_3b067 : GoodIn wsJ0_charAt_5068e wsJ2_charAt_3b067 := goodIn_r _ [24, 25, 26, 23, 27, 28, 29, 30, 31, 14, 5, 15, 16, 17, 18, 19, 20, 32, 33, 34, 35, 36, 37] (by decide +kernel) (by decide +kernel)
set_option maxRecDepth 20000 in
theorem gJ0_charAt_5068e_J2_charAt_3b067 : GoodIn wsJ0_charAt_5068e (va_wsS RJ0 498 yJ2_charAt_3b067 wsJ2_charAt_3b067) := goodIn_app (goodIn_of _ (by decide +kernel)) ggJ0_charAt_5068e_J2_charAt_3b067
theorem dJ0_charAt_5068e_0 : decode cJ0_charAt_5068e 0 = .ok (.aload_n 0, 1) := by decide +kernel
theorem dJ0_charAt_5068e_1 : decode cJ0_charAt_5068e 1 = .ok (.invokevirtual 492, 3) := by decide +kernel
theorem dJ0_charAt_5068e_4 : decode cJ0_charAt_5068e 4 = .ok (.ifCond .eq 12, 3) := by decide +kernel
theorem dJ0_charAt_5068e_7 : decode cJ0_charAt_5068e 7 = .ok (.aload_n 0, 1) := by decide +kernel
theorem dJ0_charAt_5068e_8 : decode cJ0_charAt_5068e 8 = .ok (.getfield 9, 3) := by decide +kernel
theorem dJ0_charAt_5068e_11 : decode cJ0_charAt_5068e 11 = .ok (.iload_n 1, 1) := by decide +kernel
theorem dJ0_charAt_5068e_12 : decode cJ0_charAt_5068e 12 = .ok (.invokestatic 495, 3) := by decide +kernel
theorem dJ0_charAt_5068e_15 : decode cJ0_charAt_5068e 15 = .ok (.ireturn, 1) := by decide +kernel
theorem dJ0_charAt_5068e_16 : decode cJ0_charAt_5068e 16 = .ok (.aload_n 0, 1) := by decide +kernel
theorem dJ0_charAt_5068e_17 : decode cJ0_charAt_5068e 17 = .ok (.getfield 9, 3) := by decide +kernel
theorem dJ0_charAt_5068e_20 : decode cJ0_charAt_5068e 20 = .ok (.iload_n 1, 1) := by decide +kernel
theorem dJ0_charAt_5068e_21 : decode cJ0_charAt_5068e 21 = .ok (.invokestatic 498, 3) := by decide +kernel
theorem dJ0_charAt_5068e_24 : decode cJ0_charAt_5068e 24 = .ok (.ireturn, 1) := by decide +kernel
theorem dJ0_coder_7d493_0 : decode cJ0_coder_7d493 0 = .ok (.getstatic 38, 3) := by decide +kernel
theorem dJ0_coder_7d493_3 : decode cJ0_coder_7d493 3 = .ok (.ifCond .eq 10, 3) := by decide +kernel
theorem dJ0_coder_7d493_6 : decode cJ0_coder_7d493 6 = .ok (.aload_n 0, 1) := by decide +kernel
theorem dJ0_coder_7d493_7 : decode cJ0_coder_7d493 7 = .ok (.getfield 15, 3) := by decide +kernel
theorem dJ0_coder_7d493_10 : decode cJ0_coder_7d493 10 = .ok (.goto 4, 3) := by decide +kernel
theorem dJ0_coder_7d493_13 : decode cJ0_coder_7d493 13 = .ok (.iconst 1, 1) := by decide +kernel
theorem dJ0_coder_7d493_14 : decode cJ0_coder_7d493 14 = .ok (.ireturn, 1) := by decide +kernel
theorem dJ0_isLatin1_aae02_0 : decode cJ0_isLatin1_aae02 0 = .ok (.getstatic 38, 3) := by decide +kernel
theorem dJ0_isLatin1_aae02_3 : decode cJ0_isLatin1_aae02 3 = .ok (.ifCond .eq 14, 3) := by decide +kernel
theorem dJ0_isLatin1_aae02_6 : decode cJ0_isLatin1_aae02 6 = .ok (.aload_n 0, 1) := by decide +kernel
theorem dJ0_isLatin1_aae02_7 : decode cJ0_isLatin1_aae02 7 = .ok (.getfield 15, 3) := by decide +kernel
theorem dJ0_isLatin1_aae02_10 : decode cJ0_isLatin1_aae02 10 = .ok (.ifCond .ne 7, 3) := by decide +kernel
theorem dJ0_isLatin1_aae02_13 : decode cJ0_isLatin1_aae02 13 = .ok (.iconst 1, 1) := by decide +kernel
theorem dJ0_isLatin1_aae02_14 : decode cJ0_isLatin1_aae02 14 = .ok (.goto 4, 3) := by decide +kernel
theorem dJ0_isLatin1_aae02_17 : decode cJ0_isLatin1_aae02 17 = .ok (.iconst 0, 1) := by decide +kernel
theorem dJ0_isLatin1_aae02_18 : decode cJ0_isLatin1_aae02 18 = .ok (.ireturn, 1) := by decide +kernel
set_option maxRecDepth 20000 in
theorem ggJ0_checkIndex_df160_J3_checkIndex_8e157 : GoodIn wsJ0_checkIndex_df160 wsJ3_checkIndex_8e157 := goodIn_r _ [5] (by decide +kernel) (by decide +kernel)
set_option maxRecDepth 20000 in
theorem gJ0_checkIndex_df160_J3_checkIndex_8e157 : GoodIn wsJ0_checkIndex_df160 (va_wsS RJ0 1059 yJ3_checkIndex_8e157 wsJ3_checkIndex_8e157) := goodIn_app (goodIn_of _ (by decide +kernel)) ggJ0_checkIndex_df160_J3_checkIndex_8e157
theorem dJ0_checkIndex_df160_0 : decode cJ0_checkIndex_df160 0 = .ok (.iload_n 0, 1) := by decide +kernel
theorem dJ0_checkIndex_df160_1 : decode cJ0_checkIndex_df160 1 = .ok (.iload_n 1, 1) := by decide +kernel
theorem dJ0_checkIndex_df160_2 : decode cJ0_checkIndex_df160 2 = .ok (.getstatic 1053, 3) := by decide +kernel
theorem dJ0_checkIndex_df160_5 : decode cJ0_checkIndex_df160 5 = .ok (.invokestatic 1059, 3) := by decide +kernel
theorem dJ0_checkIndex_df160_8 : decode cJ0_checkIndex_df160 8 = .ok (.pop, 1) := by decide +kernel
theorem dJ0_checkIndex_df160_9 : decode cJ0_checkIndex_df160 9 = .ok (.return_, 1) := by decide +kernel
set_option maxRecDepth 20000 in
theorem ggJ1_charAt_3b067_J0_checkIndex_df160 : GoodIn wsJ1_charAt_3b067 wsJ0_checkIndex_df160 := goodIn_r _ [4, 5, 6, 7, 8, 9] (by decide +kernel) (by decide +kernel)
set_option maxRecDepth 20000 in
theorem gJ1_charAt_3b067_J0_checkIndex_df160 : GoodIn wsJ1_charAt_3b067 (va_wsS RJ1 9 yJ0_checkIndex_df160 wsJ0_checkIndex_df160) := goodIn_app (goodIn_of _ (by decide +kernel)) ggJ1_charAt_3b067_J0_checkIndex_df160
theorem dJ1_charAt_3b067_0 : decode cJ1_charAt_3b067 0 = .ok (.iload_n 1, 1) := by decide +kernel
theorem dJ1_charAt_3b067_1 : decode cJ1_charAt_3b067 1 = .ok (.aload_n 0, 1) := by decide +kernel
theorem dJ1_charAt_3b067_2 : decode cJ1_charAt_3b067 2 = .ok (.arraylength, 1) := by decide +kernel
theorem dJ1_charAt_3b067_3 : decode cJ1_charAt_3b067 3 = .ok (.invokestatic 9, 3) := by decide +kernel
theorem dJ1_charAt_3b067_6 : decode cJ1_charAt_3b067 6 = .ok (.aload_n 0, 1) := by decide +kernel
theorem dJ1_charAt_3b067_7 : decode cJ1_charAt_3b067 7 = .ok (.iload_n 1, 1) := by decide +kernel
theorem dJ1_charAt_3b067_8 : decode cJ1_charAt_3b067 8 = .ok (.baload, 1) := by decide +kernel
theorem dJ1_charAt_3b067_9 : decode cJ1_charAt_3b067 9 = .ok (.sipush 255, 3) := by decide +kernel
theorem dJ1_charAt_3b067_12 : decode cJ1_charAt_3b067 12 = .ok (.iand, 1) := by decide +kernel
theorem dJ1_charAt_3b067_13 : decode cJ1_charAt_3b067 13 = .ok (.i2c, 1) := by decide +kernel
theorem dJ1_charAt_3b067_14 : decode cJ1_charAt_3b067 14 = .ok (.ireturn, 1) := by decide +kernel
set_option maxRecDepth 20000 in
theorem ggJ2_getChar_3b067_J2_length_9d52b : GoodIn wsJ2_getChar_3b067 wsJ2_length_9d52b := goodIn_r _ [7] (by decide +kernel) (by decide +kernel)
set_option maxRecDepth 20000 in
theorem gJ2_getChar_3b067_J2_length_9d52b : GoodIn wsJ2_getChar_3b067 (va_wsS RJ2 48 yJ2_length_9d52b wsJ2_length_9d52b) := goodIn_app (goodIn_of _ (by decide +kernel)) ggJ2_getChar_3b067_J2_length_9d52b
theorem dJ2_getChar_3b067_0 : decode cJ2_getChar_3b067 0 = .ok (.getstatic 44, 3) := by decide +kernel
theorem dJ2_getChar_3b067_3 : decode cJ2_getChar_3b067 3 = .ok (.ifCond .ne 25, 3) := by decide +kernel
theorem dJ2_getChar_3b067_6 : decode cJ2_getChar_3b067 6 = .ok (.iload_n 1, 1) := by decide +kernel
theorem dJ2_getChar_3b067_7 : decode cJ2_getChar_3b067 7 = .ok (.ifCond .lt 11, 3) := by decide +kernel
theorem dJ2_getChar_3b067_10 : decode cJ2_getChar_3b067 10 = .ok (.iload_n 1, 1) := by decide +kernel
theorem dJ2_getChar_3b067_11 : decode cJ2_getChar_3b067 11 = .ok (.aload_n 0, 1) := by decide +kernel
theorem dJ2_getChar_3b067_12 : decode cJ2_getChar_3b067 12 = .ok (.invokestatic 48, 3) := by decide +kernel
theorem dJ2_getChar_3b067_15 : decode cJ2_getChar_3b067 15 = .ok (.if_icmp .lt 13, 3) := by decide +kernel
theorem dJ2_getChar_3b067_18 : decode cJ2_getChar_3b067 18 = .ok (.new 52, 3) := by decide +kernel
theorem dJ2_getChar_3b067_21 : decode cJ2_getChar_3b067 21 = .ok (.dup, 1) := by decide +kernel
theorem dJ2_getChar_3b067_22 : decode cJ2_getChar_3b067 22 = .ok (.ldc 54, 2) := by decide +kernel
theorem dJ2_getChar_3b067_24 : decode cJ2_getChar_3b067 24 = .ok (.invokespecial 56, 3) := by decide +kernel
theorem dJ2_getChar_3b067_27 : decode cJ2_getChar_3b067 27 = .ok (.athrow, 1) := by decide +kernel
theorem dJ2_getChar_3b067_28 : decode cJ2_getChar_3b067 28 = .ok (.iload_n 1, 1) := by decide +kernel
theorem dJ2_getChar_3b067_29 : decode cJ2_getChar_3b067 29 = .ok (.iconst 1, 1) := by decide +kernel
theorem dJ2_getChar_3b067_30 : decode cJ2_getChar_3b067 30 = .ok (.ishl, 1) := by decide +kernel
theorem dJ2_getChar_3b067_31 : decode cJ2_getChar_3b067 31 = .ok (.istore_n 1, 1) := by decide +kernel
theorem dJ2_getChar_3b067_32 : decode cJ2_getChar_3b067 32 = .ok (.aload_n 0, 1) := by decide +kernel
theorem dJ2_getChar_3b067_33 : decode cJ2_getChar_3b067 33 = .ok (.iload_n 1, 1) := by decide +kernel
theorem dJ2_getChar_3b067_34 : decode cJ2_getChar_3b067 34 = .ok (.iinc 1 1, 3) := by decide +kernel
theorem dJ2_getChar_3b067_37 : decode cJ2_getChar_3b067 37 = .ok (.baload, 1) := by decide +kernel
theorem dJ2_getChar_3b067_38 : decode cJ2_getChar_3b067 38 = .ok (.sipush 255, 3) := by decide +kernel
theorem dJ2_getChar_3b067_41 : decode cJ2_getChar_3b067 41 = .ok (.iand, 1) := by decide +kernel
theorem dJ2_getChar_3b067_42 : decode cJ2_getChar_3b067 42 = .ok (.getstatic 59, 3) := by decide +kernel
theorem dJ2_getChar_3b067_45 : decode cJ2_getChar_3b067 45 = .ok (.ishl, 1) := by decide +kernel
theorem dJ2_getChar_3b067_46 : decode cJ2_getChar_3b067 46 = .ok (.aload_n 0, 1) := by decide +kernel
theorem dJ2_getChar_3b067_47 : decode cJ2_getChar_3b067 47 = .ok (.iload_n 1, 1) := by decide +kernel
theorem dJ2_getChar_3b067_48 : decode cJ2_getChar_3b067 48 = .ok (.baload, 1) := by decide +kernel
theorem dJ2_getChar_3b067_49 : decode cJ2_getChar_3b067 49 = .ok (.sipush 255, 3) := by decide +kernel
theorem dJ2_getChar_3b067_52 : decode cJ2_getChar_3b067 52 = .ok (.iand, 1) := by decide +kernel
theorem dJ2_getChar_3b067_53 : decode cJ2_getChar_3b067 53 = .ok (.getstatic 63, 3) := by decide +kernel
theorem dJ2_getChar_3b067_56 : decode cJ2_getChar_3b067 56 = .ok (.ishl, 1) := by decide +kernel
theorem dJ2_getChar_3b067_57 : decode cJ2_getChar_3b067 57 = .ok (.ior, 1) := by decide +kernel
theorem dJ2_getChar_3b067_58 : decode cJ2_getChar_3b067 58 = .ok (.i2c, 1) := by decide +kernel
theorem dJ2_getChar_3b067_59 : decode cJ2_getChar_3b067 59 = .ok (.ireturn, 1) := by decide +kernel
theorem dJ2_length_9d52b_0 : decode cJ2_length_9d52b 0 = .ok (.aload_n 0, 1) := by decide +kernel
theorem dJ2_length_9d52b_1 : decode cJ2_length_9d52b 1 = .ok (.arraylength, 1) := by decide +kernel
theorem dJ2_length_9d52b_2 : decode cJ2_length_9d52b 2 = .ok (.iconst 1, 1) := by decide +kernel
theorem dJ2_length_9d52b_3 : decode cJ2_length_9d52b 3 = .ok (.ishr, 1) := by decide +kernel
theorem dJ2_length_9d52b_4 : decode cJ2_length_9d52b 4 = .ok (.ireturn, 1) := by decide +kernel
set_option maxRecDepth 20000 in
theorem ggJ2_charAt_3b067_J2_checkIndex_2214a : GoodIn wsJ2_charAt_3b067 wsJ2_checkIndex_2214a := goodIn_r _ [4, 5, 6, 3, 7, 8, 9, 10, 11, 12, 13, 14, 15, 16] (by decide +kernel) (by decide +kernel)
set_option maxRecDepth 20000 in
theorem gJ2_charAt_3b067_J2_checkIndex_2214a : GoodIn wsJ2_charAt_3b067 (va_wsS RJ2 67 yJ2_checkIndex_2214a wsJ2_checkIndex_2214a) := goodIn_app (goodIn_of _ (by decide +kernel)) ggJ2_charAt_3b067_J2_checkIndex_2214a
set_option maxRecDepth 20000 in
theorem ggJ2_charAt_3b067_J2_getChar_3b067 : GoodIn wsJ2_charAt_3b067 wsJ2_getChar_3b067 := goodIn_r _ [19, 20, 21, 22, 5, 6, 3, 7] (by decide +kernel) (by decide +kernel)
set_option maxRecDepth 20000 in
theorem gJ2_charAt_3b067_J2_getChar_3b067 : GoodIn wsJ2_charAt_3b067 (va_wsS RJ2 71 yJ2_getChar_3b067 wsJ2_getChar_3b067) := goodIn_app (goodIn_of _ (by decide +kernel)) ggJ2_charAt_3b067_J2_getChar_3b067
theorem dJ2_charAt_3b067_0 : decode cJ2_charAt_3b067 0 = .ok (.iload_n 1, 1) := by decide +kernel
theorem dJ2_charAt_3b067_1 : decode cJ2_charAt_3b067 1 = .ok (.aload_n 0, 1) := by decide +kernel
theorem dJ2_charAt_3b067_2 : decode cJ2_charAt_3b067 2 = .ok (.invokestatic 67, 3) := by decide +kernel
theorem dJ2_charAt_3b067_5 : decode cJ2_charAt_3b067 5 = .ok (.aload_n 0, 1) := by decide +kernel
theorem dJ2_charAt_3b067_6 : decode cJ2_charAt_3b067 6 = .ok (.iload_n 1, 1) := by decide +kernel
theorem dJ2_charAt_3b067_7 : decode cJ2_charAt_3b067 7 = .ok (.invokestatic 71, 3) := by decide +kernel
theorem dJ2_charAt_3b067_10 : decode cJ2_charAt_3b067 10 = .ok (.ireturn, 1) := by decide +kernel
set_option maxRecDepth 20000 in
theorem ggJ2_checkIndex_2214a_J2_length_9d52b : GoodIn wsJ2_checkIndex_2214a wsJ2_length_9d52b := goodIn_r _ [4] (by decide +kernel) (by decide +kernel)
set_option maxRecDepth 20000 in
theorem gJ2_checkIndex_2214a_J2_length_9d52b : GoodIn wsJ2_checkIndex_2214a (va_wsS RJ2 48 yJ2_length_9d52b wsJ2_length_9d52b) := goodIn_app (goodIn_of _ (by decide +kernel)) ggJ2_checkIndex_2214a_J2_length_9d52b
set_option maxRecDepth 20000 in
theorem ggJ2_checkIndex_2214a_J0_checkIndex_df160 : GoodIn wsJ2_checkIndex_2214a wsJ0_checkIndex_df160 := goodIn_r _ [8, 9, 10, 11, 12, 13] (by decide +kernel) (by decide +kernel)
set_option maxRecDepth 20000 in
theorem gJ2_checkIndex_2214a_J0_checkIndex_df160 : GoodIn wsJ2_checkIndex_2214a (va_wsS RJ2 414 yJ0_checkIndex_df160 wsJ0_checkIndex_df160) := goodIn_app (goodIn_of _ (by decide +kernel)) ggJ2_checkIndex_2214a_J0_checkIndex_df160
theorem dJ2_checkIndex_2214a_0 : decode cJ2_checkIndex_2214a 0 = .ok (.iload_n 0, 1) := by decide +kernel
theorem dJ2_checkIndex_2214a_1 : decode cJ2_checkIndex_2214a 1 = .ok (.aload_n 1, 1) := by decide +kernel
theorem dJ2_checkIndex_2214a_2 : decode cJ2_checkIndex_2214a 2 = .ok (.invokestatic 48, 3) := by decide +kernel
theorem dJ2_checkIndex_2214a_5 : decode cJ2_checkIndex_2214a 5 = .ok (.invokestatic 414, 3) := by decide +kernel
theorem dJ2_checkIndex_2214a_8 : decode cJ2_checkIndex_2214a 8 = .ok (.return_, 1) := by decide +kernel
theorem dJ7_fill_53178_0 : decode cJ7_fill_53178 0 = .ok (.iconst 0, 1) := by decide +kernel
theorem dJ7_fill_53178_1 : decode cJ7_fill_53178 1 = .ok (.istore_n 2, 1) := by decide +kernel
theorem dJ7_fill_53178_2 : decode cJ7_fill_53178 2 = .ok (.aload_n 0, 1) := by decide +kernel
theorem dJ7_fill_53178_3 : decode cJ7_fill_53178 3 = .ok (.arraylength, 1) := by decide +kernel
theorem dJ7_fill_53178_4 : decode cJ7_fill_53178 4 = .ok (.istore_n 3, 1) := by decide +kernel
theorem dJ7_fill_53178_5 : decode cJ7_fill_53178 5 = .ok (.iload_n 2, 1) := by decide +kernel
theorem dJ7_fill_53178_6 : decode cJ7_fill_53178 6 = .ok (.iload_n 3, 1) := by decide +kernel
theorem dJ7_fill_53178_7 : decode cJ7_fill_53178 7 = .ok (.if_icmp .ge 13, 3) := by decide +kernel
theorem dJ7_fill_53178_10 : decode cJ7_fill_53178 10 = .ok (.aload_n 0, 1) := by decide +kernel
theorem dJ7_fill_53178_11 : decode cJ7_fill_53178 11 = .ok (.iload_n 2, 1) := by decide +kernel
theorem dJ7_fill_53178_12 : decode cJ7_fill_53178 12 = .ok (.iload_n 1, 1) := by decide +kernel
theorem dJ7_fill_53178_13 : decode cJ7_fill_53178 13 = .ok (.iastore, 1) := by decide +kernel
theorem dJ7_fill_53178_14 : decode cJ7_fill_53178 14 = .ok (.iinc 2 1, 3) := by decide +kernel
theorem dJ7_fill_53178_17 : decode cJ7_fill_53178 17 = .ok (.goto (-12), 3) := by decide +kernel
theorem dJ7_fill_53178_20 : decode cJ7_fill_53178 20 = .ok (.return_, 1) := by decide +kernel
theorem dJ3_checkIndex_8e157_0 : decode cJ3_checkIndex_8e157 0 = .ok (.iload_n 0, 1) := by decide +kernel
theorem dJ3_checkIndex_8e157_1 : decode cJ3_checkIndex_8e157 1 = .ok (.ifCond .lt 8, 3) := by decide +kernel
theorem dJ3_checkIndex_8e157_4 : decode cJ3_checkIndex_8e157 4 = .ok (.iload_n 0, 1) := by decide +kernel
theorem dJ3_checkIndex_8e157_5 : decode cJ3_checkIndex_8e157 5 = .ok (.iload_n 1, 1) := by decide +kernel
theorem dJ3_checkIndex_8e157_6 : decode cJ3_checkIndex_8e157 6 = .ok (.if_icmp .lt 10, 3) := by decide +kernel
theorem dJ3_checkIndex_8e157_9 : decode cJ3_checkIndex_8e157 9 = .ok (.aload_n 2, 1) := by decide +kernel
theorem dJ3_checkIndex_8e157_10 : decode cJ3_checkIndex_8e157 10 = .ok (.iload_n 0, 1) := by decide +kernel
theorem dJ3_checkIndex_8e157_11 : decode cJ3_checkIndex_8e157 11 = .ok (.iload_n 1, 1) := by decide +kernel
theorem dJ3_checkIndex_8e157_12 : decode cJ3_checkIndex_8e157 12 = .ok (.invokestatic 95, 3) := by decide +kernel
theorem dJ3_checkIndex_8e157_15 : decode cJ3_checkIndex_8e157 15 = .ok (.athrow, 1) := by decide +kernel
theorem dJ3_checkIndex_8e157_16 : decode cJ3_checkIndex_8e157 16 = .ok (.iload_n 0, 1) := by decide +kernel
theorem dJ3_checkIndex_8e157_17 : decode cJ3_checkIndex_8e157 17 = .ok (.ireturn, 1) := by decide +kernel
set_option maxRecDepth 20000 in
theorem ggL_deposit_X2_deposit : GoodIn wsL_deposit wsX2_deposit := goodIn_ca (goodIn_ca (goodIn_r _ [7, 8, 9, 10, 11, 6, 12, 13, 14, 15, 16, 17, 18, 19, 20, 21, 22, 23, 24, 25] (by decide +kernel) (by decide +kernel)) (goodIn_sub (fun _ h => List.mem_cons_of_mem _ (List.mem_append_left _ (List.mem_append_right _ h))) (by decide +kernel))) (goodIn_sub (fun _ h => List.mem_cons_of_mem _ (List.mem_append_right _ h)) (by decide +kernel))
set_option maxRecDepth 20000 in
theorem gL_deposit_X2_deposit : GoodIn wsL_deposit (wsV RL 7 RX2 yX2_deposit wsX2_deposit) := goodIn_app (goodIn_of _ (by decide +kernel)) ggL_deposit_X2_deposit
theorem dL_deposit_0 : decode cL_deposit 0 = .ok (.aload_n 3, 1) := by decide +kernel
theorem dL_deposit_1 : decode cL_deposit 1 = .ok (.iconst 0, 1) := by decide +kernel
theorem dL_deposit_2 : decode cL_deposit 2 = .ok (.aload_n 0, 1) := by decide +kernel
theorem dL_deposit_3 : decode cL_deposit 3 = .ok (.iload_n 1, 1) := by decide +kernel
theorem dL_deposit_4 : decode cL_deposit 4 = .ok (.iload_n 2, 1) := by decide +kernel
theorem dL_deposit_5 : decode cL_deposit 5 = .ok (.invokevirtual 7, 3) := by decide +kernel
theorem dL_deposit_8 : decode cL_deposit 8 = .ok (.i2l, 1) := by decide +kernel
theorem dL_deposit_9 : decode cL_deposit 9 = .ok (.lastore, 1) := by decide +kernel
theorem dL_deposit_10 : decode cL_deposit 10 = .ok (.goto 11, 3) := by decide +kernel
theorem dL_deposit_13 : decode cL_deposit 13 = .ok (.astore 4, 2) := by decide +kernel
theorem dL_deposit_15 : decode cL_deposit 15 = .ok (.iconst 1, 1) := by decide +kernel
theorem dL_deposit_16 : decode cL_deposit 16 = .ok (.ireturn, 1) := by decide +kernel
theorem dL_deposit_17 : decode cL_deposit 17 = .ok (.astore 4, 2) := by decide +kernel
theorem dL_deposit_19 : decode cL_deposit 19 = .ok (.iconst 2, 1) := by decide +kernel
theorem dL_deposit_20 : decode cL_deposit 20 = .ok (.ireturn, 1) := by decide +kernel
theorem dL_deposit_21 : decode cL_deposit 21 = .ok (.iconst 0, 1) := by decide +kernel
theorem dL_deposit_22 : decode cL_deposit 22 = .ok (.ireturn, 1) := by decide +kernel
set_option maxRecDepth 20000 in
theorem ggL_funds_X2_funds : GoodIn wsL_funds wsX2_funds := goodIn_ca (goodIn_r _ [6, 7, 8, 9, 5, 10, 11, 12, 13, 14, 15, 16, 17, 18] (by decide +kernel) (by decide +kernel)) (goodIn_sub (fun _ h => List.mem_cons_of_mem _ (List.mem_append_right _ h)) (by decide +kernel))
set_option maxRecDepth 20000 in
theorem gL_funds_X2_funds : GoodIn wsL_funds (wsV RL 17 RX2 yX2_funds wsX2_funds) := goodIn_app (goodIn_of _ (by decide +kernel)) ggL_funds_X2_funds
theorem dL_funds_0 : decode cL_funds 0 = .ok (.aload_n 2, 1) := by decide +kernel
theorem dL_funds_1 : decode cL_funds 1 = .ok (.iconst 0, 1) := by decide +kernel
theorem dL_funds_2 : decode cL_funds 2 = .ok (.aload_n 0, 1) := by decide +kernel
theorem dL_funds_3 : decode cL_funds 3 = .ok (.iload_n 1, 1) := by decide +kernel
theorem dL_funds_4 : decode cL_funds 4 = .ok (.invokevirtual 17, 3) := by decide +kernel
theorem dL_funds_7 : decode cL_funds 7 = .ok (.i2l, 1) := by decide +kernel
theorem dL_funds_8 : decode cL_funds 8 = .ok (.lastore, 1) := by decide +kernel
theorem dL_funds_9 : decode cL_funds 9 = .ok (.goto 6, 3) := by decide +kernel
theorem dL_funds_12 : decode cL_funds 12 = .ok (.astore_n 3, 1) := by decide +kernel
theorem dL_funds_13 : decode cL_funds 13 = .ok (.iconst 1, 1) := by decide +kernel
theorem dL_funds_14 : decode cL_funds 14 = .ok (.ireturn, 1) := by decide +kernel
theorem dL_funds_15 : decode cL_funds 15 = .ok (.iconst 0, 1) := by decide +kernel
theorem dL_funds_16 : decode cL_funds 16 = .ok (.ireturn, 1) := by decide +kernel
set_option maxRecDepth 20000 in
theorem ggL_bid_X2_bid : GoodIn wsL_bid wsX2_bid := goodIn_ca (goodIn_ca (goodIn_ca (goodIn_r _ [8, 9, 10, 11, 12, 13, 14, 7, 15, 16, 17, 18, 19, 20, 21, 22, 23, 24, 25, 26, 27, 28, 29, 30, 31, 32, 33, 34, 35, 36, 37, 38, 39, 40, 41, 42, 43, 44, 45, 46, 47, 48, 49, 50] (by decide +kernel) (by decide +kernel)) (goodIn_sub (fun _ h => List.mem_cons_of_mem _ (List.mem_append_left _ (List.mem_append_left _ (List.mem_append_right _ h)))) (by decide +kernel))) (goodIn_sub (fun _ h => List.mem_cons_of_mem _ (List.mem_append_left _ (List.mem_append_right _ h))) (by decide +kernel))) (goodIn_sub (fun _ h => List.mem_cons_of_mem _ (List.mem_append_right _ h)) (by decide +kernel))
set_option maxRecDepth 20000 in
theorem gL_bid_X2_bid : GoodIn wsL_bid (wsV RL 21 RX2 yX2_bid wsX2_bid) := goodIn_app (goodIn_of _ (by decide +kernel)) ggL_bid_X2_bid
theorem dL_bid_0 : decode cL_bid 0 = .ok (.aload 4, 2) := by decide +kernel
theorem dL_bid_2 : decode cL_bid 2 = .ok (.iconst 0, 1) := by decide +kernel
theorem dL_bid_3 : decode cL_bid 3 = .ok (.aload_n 0, 1) := by decide +kernel
theorem dL_bid_4 : decode cL_bid 4 = .ok (.iload_n 1, 1) := by decide +kernel
theorem dL_bid_5 : decode cL_bid 5 = .ok (.iload_n 2, 1) := by decide +kernel
theorem dL_bid_6 : decode cL_bid 6 = .ok (.iload_n 3, 1) := by decide +kernel
theorem dL_bid_7 : decode cL_bid 7 = .ok (.invokevirtual 21, 3) := by decide +kernel
theorem dL_bid_10 : decode cL_bid 10 = .ok (.i2l, 1) := by decide +kernel
theorem dL_bid_11 : decode cL_bid 11 = .ok (.lastore, 1) := by decide +kernel
theorem dL_bid_12 : decode cL_bid 12 = .ok (.goto 15, 3) := by decide +kernel
theorem dL_bid_15 : decode cL_bid 15 = .ok (.astore 5, 2) := by decide +kernel
theorem dL_bid_17 : decode cL_bid 17 = .ok (.iconst 1, 1) := by decide +kernel
theorem dL_bid_18 : decode cL_bid 18 = .ok (.ireturn, 1) := by decide +kernel
theorem dL_bid_19 : decode cL_bid 19 = .ok (.astore 5, 2) := by decide +kernel
theorem dL_bid_21 : decode cL_bid 21 = .ok (.iconst 2, 1) := by decide +kernel
theorem dL_bid_22 : decode cL_bid 22 = .ok (.ireturn, 1) := by decide +kernel
theorem dL_bid_23 : decode cL_bid 23 = .ok (.astore 5, 2) := by decide +kernel
theorem dL_bid_25 : decode cL_bid 25 = .ok (.iconst 3, 1) := by decide +kernel
theorem dL_bid_26 : decode cL_bid 26 = .ok (.ireturn, 1) := by decide +kernel
theorem dL_bid_27 : decode cL_bid 27 = .ok (.iconst 0, 1) := by decide +kernel
theorem dL_bid_28 : decode cL_bid 28 = .ok (.ireturn, 1) := by decide +kernel
set_option maxRecDepth 20000 in
theorem ggL_bids_X2_bids : GoodIn wsL_bids wsX2_bids := goodIn_ca (goodIn_r _ [6, 7, 8, 9, 5, 10, 11, 12, 13, 14, 15, 16, 17, 18, 19, 20, 21, 22, 23, 24, 25, 26, 27, 28, 29, 30, 31, 32, 33, 34] (by decide +kernel) (by decide +kernel)) (goodIn_sub (fun _ h => List.mem_cons_of_mem _ (List.mem_append_right _ h)) (by decide +kernel))
set_option maxRecDepth 20000 in
theorem gL_bids_X2_bids : GoodIn wsL_bids (wsV RL 27 RX2 yX2_bids wsX2_bids) := goodIn_app (goodIn_of _ (by decide +kernel)) ggL_bids_X2_bids
theorem dL_bids_0 : decode cL_bids 0 = .ok (.aload_n 2, 1) := by decide +kernel
theorem dL_bids_1 : decode cL_bids 1 = .ok (.iconst 0, 1) := by decide +kernel
theorem dL_bids_2 : decode cL_bids 2 = .ok (.aload_n 0, 1) := by decide +kernel
theorem dL_bids_3 : decode cL_bids 3 = .ok (.iload_n 1, 1) := by decide +kernel
theorem dL_bids_4 : decode cL_bids 4 = .ok (.invokevirtual 27, 3) := by decide +kernel
theorem dL_bids_7 : decode cL_bids 7 = .ok (.i2l, 1) := by decide +kernel
theorem dL_bids_8 : decode cL_bids 8 = .ok (.lastore, 1) := by decide +kernel
theorem dL_bids_9 : decode cL_bids 9 = .ok (.goto 6, 3) := by decide +kernel
theorem dL_bids_12 : decode cL_bids 12 = .ok (.astore_n 3, 1) := by decide +kernel
theorem dL_bids_13 : decode cL_bids 13 = .ok (.iconst 1, 1) := by decide +kernel
theorem dL_bids_14 : decode cL_bids 14 = .ok (.ireturn, 1) := by decide +kernel
theorem dL_bids_15 : decode cL_bids 15 = .ok (.iconst 0, 1) := by decide +kernel
theorem dL_bids_16 : decode cL_bids 16 = .ok (.ireturn, 1) := by decide +kernel
set_option maxRecDepth 20000 in
theorem ggL_renew_X2_renew : GoodIn wsL_renew wsX2_renew := goodIn_ca (goodIn_ca (goodIn_ca (goodIn_r _ [8, 9, 10, 11, 12, 7, 13, 14, 15, 16, 17, 18, 19, 20, 21, 22, 23, 24, 25, 26, 27, 28, 29, 30, 31, 32, 33, 34, 35, 36, 37, 38, 39, 40, 41, 42, 43, 44, 45, 46, 47, 48, 49, 50, 51, 52, 53, 54, 55] (by decide +kernel) (by decide +kernel)) (goodIn_sub (fun _ h => List.mem_cons_of_mem _ (List.mem_append_left _ (List.mem_append_left _ (List.mem_append_right _ h)))) (by decide +kernel))) (goodIn_sub (fun _ h => List.mem_cons_of_mem _ (List.mem_append_left _ (List.mem_append_right _ h))) (by decide +kernel))) (goodIn_sub (fun _ h => List.mem_cons_of_mem _ (List.mem_append_right _ h)) (by decide +kernel))
set_option maxRecDepth 20000 in
theorem gL_renew_X2_renew : GoodIn wsL_renew (wsV RL 30 RX2 yX2_renew wsX2_renew) := goodIn_app (goodIn_of _ (by decide +kernel)) ggL_renew_X2_renew
theorem dL_renew_0 : decode cL_renew 0 = .ok (.aload_n 3, 1) := by decide +kernel
theorem dL_renew_1 : decode cL_renew 1 = .ok (.iconst 0, 1) := by decide +kernel
theorem dL_renew_2 : decode cL_renew 2 = .ok (.aload_n 0, 1) := by decide +kernel
theorem dL_renew_3 : decode cL_renew 3 = .ok (.iload_n 1, 1) := by decide +kernel
theorem dL_renew_4 : decode cL_renew 4 = .ok (.iload_n 2, 1) := by decide +kernel
theorem dL_renew_5 : decode cL_renew 5 = .ok (.invokevirtual 30, 3) := by decide +kernel
theorem dL_renew_8 : decode cL_renew 8 = .ok (.i2l, 1) := by decide +kernel
theorem dL_renew_9 : decode cL_renew 9 = .ok (.lastore, 1) := by decide +kernel
theorem dL_renew_10 : decode cL_renew 10 = .ok (.goto 15, 3) := by decide +kernel
theorem dL_renew_13 : decode cL_renew 13 = .ok (.astore 4, 2) := by decide +kernel
theorem dL_renew_15 : decode cL_renew 15 = .ok (.iconst 1, 1) := by decide +kernel
theorem dL_renew_16 : decode cL_renew 16 = .ok (.ireturn, 1) := by decide +kernel
theorem dL_renew_17 : decode cL_renew 17 = .ok (.astore 4, 2) := by decide +kernel
theorem dL_renew_19 : decode cL_renew 19 = .ok (.iconst 2, 1) := by decide +kernel
theorem dL_renew_20 : decode cL_renew 20 = .ok (.ireturn, 1) := by decide +kernel
theorem dL_renew_21 : decode cL_renew 21 = .ok (.astore 4, 2) := by decide +kernel
theorem dL_renew_23 : decode cL_renew 23 = .ok (.iconst 3, 1) := by decide +kernel
theorem dL_renew_24 : decode cL_renew 24 = .ok (.ireturn, 1) := by decide +kernel
theorem dL_renew_25 : decode cL_renew 25 = .ok (.iconst 0, 1) := by decide +kernel
theorem dL_renew_26 : decode cL_renew 26 = .ok (.ireturn, 1) := by decide +kernel
set_option maxRecDepth 20000 in
theorem ggL_redeem_X2_redeem : GoodIn wsL_redeem wsX2_redeem := goodIn_ca (goodIn_ca (goodIn_r _ [7, 8, 9, 10, 11, 6, 12, 13, 14, 15, 16, 17, 18, 19, 20, 21, 22, 23, 24, 25, 26, 27, 28, 29, 30, 31, 32, 33, 34, 35, 36, 37, 38, 39, 40, 41, 42, 43, 44, 45, 46, 47, 48, 49, 50, 51, 52, 53, 54, 55, 56, 57, 58, 59, 60, 61, 62, 63, 64] (by decide +kernel) (by decide +kernel)) (goodIn_sub (fun _ h => List.mem_cons_of_mem _ (List.mem_append_left _ (List.mem_append_right _ h))) (by decide +kernel))) (goodIn_sub (fun _ h => List.mem_cons_of_mem _ (List.mem_append_right _ h)) (by decide +kernel))
set_option maxRecDepth 20000 in
theorem gL_redeem_X2_redeem : GoodIn wsL_redeem (wsV RL 33 RX2 yX2_redeem wsX2_redeem) := goodIn_app (goodIn_of _ (by decide +kernel)) ggL_redeem_X2_redeem
theorem dL_redeem_0 : decode cL_redeem 0 = .ok (.aload_n 2, 1) := by decide +kernel
theorem dL_redeem_1 : decode cL_redeem 1 = .ok (.iconst 0, 1) := by decide +kernel
theorem dL_redeem_2 : decode cL_redeem 2 = .ok (.aload_n 0, 1) := by decide +kernel
theorem dL_redeem_3 : decode cL_redeem 3 = .ok (.iload_n 1, 1) := by decide +kernel
theorem dL_redeem_4 : decode cL_redeem 4 = .ok (.invokevirtual 33, 3) := by decide +kernel
theorem dL_redeem_7 : decode cL_redeem 7 = .ok (.i2l, 1) := by decide +kernel
theorem dL_redeem_8 : decode cL_redeem 8 = .ok (.lastore, 1) := by decide +kernel
theorem dL_redeem_9 : decode cL_redeem 9 = .ok (.goto 9, 3) := by decide +kernel
theorem dL_redeem_12 : decode cL_redeem 12 = .ok (.astore_n 3, 1) := by decide +kernel
theorem dL_redeem_13 : decode cL_redeem 13 = .ok (.iconst 1, 1) := by decide +kernel
theorem dL_redeem_14 : decode cL_redeem 14 = .ok (.ireturn, 1) := by decide +kernel
theorem dL_redeem_15 : decode cL_redeem 15 = .ok (.astore_n 3, 1) := by decide +kernel
theorem dL_redeem_16 : decode cL_redeem 16 = .ok (.iconst 2, 1) := by decide +kernel
theorem dL_redeem_17 : decode cL_redeem 17 = .ok (.ireturn, 1) := by decide +kernel
theorem dL_redeem_18 : decode cL_redeem 18 = .ok (.iconst 0, 1) := by decide +kernel
theorem dL_redeem_19 : decode cL_redeem 19 = .ok (.ireturn, 1) := by decide +kernel
set_option maxRecDepth 20000 in
theorem ggL_setRecord_X2_setRecord : GoodIn wsL_setRecord wsX2_setRecord := goodIn_ca (goodIn_ca (goodIn_ca (goodIn_r _ [8, 9, 10, 11, 7, 12, 13, 14, 15, 16, 17, 18, 19, 20, 21, 22, 23, 24, 25, 26, 27, 28, 29, 30, 31, 32, 33, 34, 35, 36, 37, 38, 39, 40, 41] (by decide +kernel) (by decide +kernel)) (goodIn_sub (fun _ h => List.mem_cons_of_mem _ (List.mem_append_left _ (List.mem_append_left _ (List.mem_append_right _ h)))) (by decide +kernel))) (goodIn_sub (fun _ h => List.mem_cons_of_mem _ (List.mem_append_left _ (List.mem_append_right _ h))) (by decide +kernel))) (goodIn_sub (fun _ h => List.mem_cons_of_mem _ (List.mem_append_right _ h)) (by decide +kernel))
set_option maxRecDepth 20000 in
theorem gL_setRecord_X2_setRecord : GoodIn wsL_setRecord (wsV RL 36 RX2 yX2_setRecord wsX2_setRecord) := goodIn_app (goodIn_of _ (by decide +kernel)) ggL_setRecord_X2_setRecord
theorem dL_setRecord_0 : decode cL_setRecord 0 = .ok (.aload 4, 2) := by decide +kernel
theorem dL_setRecord_2 : decode cL_setRecord 2 = .ok (.iconst 0, 1) := by decide +kernel
theorem dL_setRecord_3 : decode cL_setRecord 3 = .ok (.aload_n 0, 1) := by decide +kernel
theorem dL_setRecord_4 : decode cL_setRecord 4 = .ok (.iload_n 1, 1) := by decide +kernel
theorem dL_setRecord_5 : decode cL_setRecord 5 = .ok (.iload_n 2, 1) := by decide +kernel
theorem dL_setRecord_6 : decode cL_setRecord 6 = .ok (.iload_n 3, 1) := by decide +kernel
theorem dL_setRecord_7 : decode cL_setRecord 7 = .ok (.invokevirtual 36, 3) := by decide +kernel
theorem dL_setRecord_10 : decode cL_setRecord 10 = .ok (.i2l, 1) := by decide +kernel
theorem dL_setRecord_11 : decode cL_setRecord 11 = .ok (.lastore, 1) := by decide +kernel
theorem dL_setRecord_12 : decode cL_setRecord 12 = .ok (.goto 15, 3) := by decide +kernel
theorem dL_setRecord_15 : decode cL_setRecord 15 = .ok (.astore 5, 2) := by decide +kernel
theorem dL_setRecord_17 : decode cL_setRecord 17 = .ok (.iconst 1, 1) := by decide +kernel
theorem dL_setRecord_18 : decode cL_setRecord 18 = .ok (.ireturn, 1) := by decide +kernel
theorem dL_setRecord_19 : decode cL_setRecord 19 = .ok (.astore 5, 2) := by decide +kernel
theorem dL_setRecord_21 : decode cL_setRecord 21 = .ok (.iconst 2, 1) := by decide +kernel
theorem dL_setRecord_22 : decode cL_setRecord 22 = .ok (.ireturn, 1) := by decide +kernel
theorem dL_setRecord_23 : decode cL_setRecord 23 = .ok (.astore 5, 2) := by decide +kernel
theorem dL_setRecord_25 : decode cL_setRecord 25 = .ok (.iconst 3, 1) := by decide +kernel
theorem dL_setRecord_26 : decode cL_setRecord 26 = .ok (.ireturn, 1) := by decide +kernel
theorem dL_setRecord_27 : decode cL_setRecord 27 = .ok (.iconst 0, 1) := by decide +kernel
theorem dL_setRecord_28 : decode cL_setRecord 28 = .ok (.ireturn, 1) := by decide +kernel
set_option maxRecDepth 20000 in
theorem ggL_state_X2_state : GoodIn wsL_state wsX2_state := goodIn_ca (goodIn_r _ [6, 7, 8, 9, 5, 10, 11, 12, 13, 14, 15, 16, 17, 18, 19, 20, 21, 22, 23, 24, 25, 26, 27, 28, 29] (by decide +kernel) (by decide +kernel)) (goodIn_sub (fun _ h => List.mem_cons_of_mem _ (List.mem_append_right _ h)) (by decide +kernel))
set_option maxRecDepth 20000 in
theorem gL_state_X2_state : GoodIn wsL_state (wsV RL 39 RX2 yX2_state wsX2_state) := goodIn_app (goodIn_of _ (by decide +kernel)) ggL_state_X2_state
theorem dL_state_0 : decode cL_state 0 = .ok (.aload_n 2, 1) := by decide +kernel
theorem dL_state_1 : decode cL_state 1 = .ok (.iconst 0, 1) := by decide +kernel
theorem dL_state_2 : decode cL_state 2 = .ok (.aload_n 0, 1) := by decide +kernel
theorem dL_state_3 : decode cL_state 3 = .ok (.iload_n 1, 1) := by decide +kernel
theorem dL_state_4 : decode cL_state 4 = .ok (.invokevirtual 39, 3) := by decide +kernel
theorem dL_state_7 : decode cL_state 7 = .ok (.i2l, 1) := by decide +kernel
theorem dL_state_8 : decode cL_state 8 = .ok (.lastore, 1) := by decide +kernel
theorem dL_state_9 : decode cL_state 9 = .ok (.goto 6, 3) := by decide +kernel
theorem dL_state_12 : decode cL_state 12 = .ok (.astore_n 3, 1) := by decide +kernel
theorem dL_state_13 : decode cL_state 13 = .ok (.iconst 1, 1) := by decide +kernel
theorem dL_state_14 : decode cL_state 14 = .ok (.ireturn, 1) := by decide +kernel
theorem dL_state_15 : decode cL_state 15 = .ok (.iconst 0, 1) := by decide +kernel
theorem dL_state_16 : decode cL_state 16 = .ok (.ireturn, 1) := by decide +kernel
set_option maxRecDepth 20000 in
theorem ggL_sign_X2_sign : GoodIn wsL_sign wsX2_sign := goodIn_ca (goodIn_r _ [6, 7, 8, 9, 5, 10, 11, 12, 13, 14, 15, 16, 17, 18, 19, 20, 21, 22, 23, 24, 25, 26, 27, 28, 29, 30, 31, 32, 33, 34, 35, 36, 37, 38, 39, 40, 41, 42, 43, 44, 45, 46, 47, 48, 49, 50, 51, 52, 53, 54, 55, 56, 57, 58, 59, 60, 61, 62, 63, 64, 65, 66, 67, 68, 69, 70, 71, 72, 73, 74, 75, 76, 77, 78, 79, 80, 81] (by decide +kernel) (by decide +kernel)) (goodIn_sub (fun _ h => List.mem_cons_of_mem _ (List.mem_append_right _ h)) (by decide +kernel))
set_option maxRecDepth 20000 in
theorem gL_sign_X2_sign : GoodIn wsL_sign (wsV RL 42 RX2 yX2_sign wsX2_sign) := goodIn_app (goodIn_of _ (by decide +kernel)) ggL_sign_X2_sign
theorem dL_sign_0 : decode cL_sign 0 = .ok (.aload_n 3, 1) := by decide +kernel
theorem dL_sign_1 : decode cL_sign 1 = .ok (.iconst 0, 1) := by decide +kernel
theorem dL_sign_2 : decode cL_sign 2 = .ok (.aload_n 0, 1) := by decide +kernel
theorem dL_sign_3 : decode cL_sign 3 = .ok (.iload_n 1, 1) := by decide +kernel
theorem dL_sign_4 : decode cL_sign 4 = .ok (.iload_n 2, 1) := by decide +kernel
theorem dL_sign_5 : decode cL_sign 5 = .ok (.invokevirtual 42, 3) := by decide +kernel
theorem dL_sign_8 : decode cL_sign 8 = .ok (.i2l, 1) := by decide +kernel
theorem dL_sign_9 : decode cL_sign 9 = .ok (.lastore, 1) := by decide +kernel
theorem dL_sign_10 : decode cL_sign 10 = .ok (.goto 7, 3) := by decide +kernel
theorem dL_sign_13 : decode cL_sign 13 = .ok (.astore 4, 2) := by decide +kernel
theorem dL_sign_15 : decode cL_sign 15 = .ok (.iconst 1, 1) := by decide +kernel
theorem dL_sign_16 : decode cL_sign 16 = .ok (.ireturn, 1) := by decide +kernel
theorem dL_sign_17 : decode cL_sign 17 = .ok (.iconst 0, 1) := by decide +kernel
theorem dL_sign_18 : decode cL_sign 18 = .ok (.ireturn, 1) := by decide +kernel
set_option maxRecDepth 20000 in
theorem ggL_owner_X2_owner : GoodIn wsL_owner wsX2_owner := goodIn_ca (goodIn_r _ [6, 7, 8, 9, 5, 10, 11, 12, 13, 14, 15, 16, 17, 18, 19, 20, 21, 22, 23, 24, 25, 26, 27, 28, 29] (by decide +kernel) (by decide +kernel)) (goodIn_sub (fun _ h => List.mem_cons_of_mem _ (List.mem_append_right _ h)) (by decide +kernel))
set_option maxRecDepth 20000 in
theorem gL_owner_X2_owner : GoodIn wsL_owner (wsV RL 46 RX2 yX2_owner wsX2_owner) := goodIn_app (goodIn_of _ (by decide +kernel)) ggL_owner_X2_owner
theorem dL_owner_0 : decode cL_owner 0 = .ok (.aload_n 2, 1) := by decide +kernel
theorem dL_owner_1 : decode cL_owner 1 = .ok (.iconst 0, 1) := by decide +kernel
theorem dL_owner_2 : decode cL_owner 2 = .ok (.aload_n 0, 1) := by decide +kernel
theorem dL_owner_3 : decode cL_owner 3 = .ok (.iload_n 1, 1) := by decide +kernel
theorem dL_owner_4 : decode cL_owner 4 = .ok (.invokevirtual 46, 3) := by decide +kernel
theorem dL_owner_7 : decode cL_owner 7 = .ok (.i2l, 1) := by decide +kernel
theorem dL_owner_8 : decode cL_owner 8 = .ok (.lastore, 1) := by decide +kernel
theorem dL_owner_9 : decode cL_owner 9 = .ok (.goto 6, 3) := by decide +kernel
theorem dL_owner_12 : decode cL_owner 12 = .ok (.astore_n 3, 1) := by decide +kernel
theorem dL_owner_13 : decode cL_owner 13 = .ok (.iconst 1, 1) := by decide +kernel
theorem dL_owner_14 : decode cL_owner 14 = .ok (.ireturn, 1) := by decide +kernel
theorem dL_owner_15 : decode cL_owner 15 = .ok (.iconst 0, 1) := by decide +kernel
theorem dL_owner_16 : decode cL_owner 16 = .ok (.ireturn, 1) := by decide +kernel
set_option maxRecDepth 20000 in
theorem ggL_next_X2_next : GoodIn wsL_next wsX2_next := goodIn_ca (goodIn_r _ [6, 7, 8, 9, 5, 10, 11, 12, 13, 14, 15, 16, 17, 18, 19, 20, 21, 22, 23, 24, 25, 26, 27, 28, 29, 30, 31, 32, 33, 34, 35, 36] (by decide +kernel) (by decide +kernel)) (goodIn_sub (fun _ h => List.mem_cons_of_mem _ (List.mem_append_right _ h)) (by decide +kernel))
set_option maxRecDepth 20000 in
theorem gL_next_X2_next : GoodIn wsL_next (wsV RL 49 RX2 yX2_next wsX2_next) := goodIn_app (goodIn_of _ (by decide +kernel)) ggL_next_X2_next
theorem dL_next_0 : decode cL_next 0 = .ok (.aload_n 2, 1) := by decide +kernel
theorem dL_next_1 : decode cL_next 1 = .ok (.iconst 0, 1) := by decide +kernel
theorem dL_next_2 : decode cL_next 2 = .ok (.aload_n 0, 1) := by decide +kernel
theorem dL_next_3 : decode cL_next 3 = .ok (.iload_n 1, 1) := by decide +kernel
theorem dL_next_4 : decode cL_next 4 = .ok (.invokevirtual 49, 3) := by decide +kernel
theorem dL_next_7 : decode cL_next 7 = .ok (.i2l, 1) := by decide +kernel
theorem dL_next_8 : decode cL_next 8 = .ok (.lastore, 1) := by decide +kernel
theorem dL_next_9 : decode cL_next 9 = .ok (.goto 6, 3) := by decide +kernel
theorem dL_next_12 : decode cL_next 12 = .ok (.astore_n 3, 1) := by decide +kernel
theorem dL_next_13 : decode cL_next 13 = .ok (.iconst 1, 1) := by decide +kernel
theorem dL_next_14 : decode cL_next 14 = .ok (.ireturn, 1) := by decide +kernel
theorem dL_next_15 : decode cL_next 15 = .ok (.iconst 0, 1) := by decide +kernel
theorem dL_next_16 : decode cL_next 16 = .ok (.ireturn, 1) := by decide +kernel
set_option maxRecDepth 20000 in
theorem ggL_dispute_X2_dispute : GoodIn wsL_dispute wsX2_dispute := goodIn_ca (goodIn_ca (goodIn_r _ [7, 8, 9, 10, 11, 6, 12, 13, 14, 15, 16, 17, 18, 19, 20, 21, 22, 23, 24, 25, 26, 27, 28, 29, 30, 31, 32, 33, 34, 35, 36, 37, 38, 39, 40, 41, 42, 43, 44, 45, 46, 47, 48, 49, 50, 51, 52, 53, 54, 55, 56] (by decide +kernel) (by decide +kernel)) (goodIn_sub (fun _ h => List.mem_cons_of_mem _ (List.mem_append_left _ (List.mem_append_right _ h))) (by decide +kernel))) (goodIn_sub (fun _ h => List.mem_cons_of_mem _ (List.mem_append_right _ h)) (by decide +kernel))
set_option maxRecDepth 20000 in
theorem gL_dispute_X2_dispute : GoodIn wsL_dispute (wsV RL 52 RX2 yX2_dispute wsX2_dispute) := goodIn_app (goodIn_of _ (by decide +kernel)) ggL_dispute_X2_dispute
theorem dL_dispute_0 : decode cL_dispute 0 = .ok (.aload_n 3, 1) := by decide +kernel
theorem dL_dispute_1 : decode cL_dispute 1 = .ok (.iconst 0, 1) := by decide +kernel
theorem dL_dispute_2 : decode cL_dispute 2 = .ok (.aload_n 0, 1) := by decide +kernel
theorem dL_dispute_3 : decode cL_dispute 3 = .ok (.iload_n 1, 1) := by decide +kernel
theorem dL_dispute_4 : decode cL_dispute 4 = .ok (.iload_n 2, 1) := by decide +kernel
theorem dL_dispute_5 : decode cL_dispute 5 = .ok (.invokevirtual 52, 3) := by decide +kernel
theorem dL_dispute_8 : decode cL_dispute 8 = .ok (.i2l, 1) := by decide +kernel
theorem dL_dispute_9 : decode cL_dispute 9 = .ok (.lastore, 1) := by decide +kernel
theorem dL_dispute_10 : decode cL_dispute 10 = .ok (.goto 11, 3) := by decide +kernel
theorem dL_dispute_13 : decode cL_dispute 13 = .ok (.astore 4, 2) := by decide +kernel
theorem dL_dispute_15 : decode cL_dispute 15 = .ok (.iconst 1, 1) := by decide +kernel
theorem dL_dispute_16 : decode cL_dispute 16 = .ok (.ireturn, 1) := by decide +kernel
theorem dL_dispute_17 : decode cL_dispute 17 = .ok (.astore 4, 2) := by decide +kernel
theorem dL_dispute_19 : decode cL_dispute 19 = .ok (.iconst 2, 1) := by decide +kernel
theorem dL_dispute_20 : decode cL_dispute 20 = .ok (.ireturn, 1) := by decide +kernel
theorem dL_dispute_21 : decode cL_dispute 21 = .ok (.iconst 0, 1) := by decide +kernel
theorem dL_dispute_22 : decode cL_dispute 22 = .ok (.ireturn, 1) := by decide +kernel
set_option maxRecDepth 20000 in
theorem ggL_decide_X2_decide : GoodIn wsL_decide wsX2_decide := goodIn_ca (goodIn_ca (goodIn_r _ [7, 8, 9, 10, 11, 6, 12, 13, 14, 15, 16, 17, 18, 19, 20, 21, 22, 23, 24, 25, 26, 27, 28, 29, 30, 31, 32, 33, 34, 35, 36, 37, 38, 39, 40, 41, 42, 43, 44, 45, 46, 47, 48, 49, 50, 51, 52, 53, 54, 55, 56, 57, 58, 59, 60, 61, 62, 63, 64, 65] (by decide +kernel) (by decide +kernel)) (goodIn_sub (fun _ h => List.mem_cons_of_mem _ (List.mem_append_left _ (List.mem_append_right _ h))) (by decide +kernel))) (goodIn_sub (fun _ h => List.mem_cons_of_mem _ (List.mem_append_right _ h)) (by decide +kernel))
set_option maxRecDepth 20000 in
theorem gL_decide_X2_decide : GoodIn wsL_decide (wsV RL 55 RX2 yX2_decide wsX2_decide) := goodIn_app (goodIn_of _ (by decide +kernel)) ggL_decide_X2_decide
theorem dL_decide_0 : decode cL_decide 0 = .ok (.aload_n 3, 1) := by decide +kernel
theorem dL_decide_1 : decode cL_decide 1 = .ok (.iconst 0, 1) := by decide +kernel
theorem dL_decide_2 : decode cL_decide 2 = .ok (.aload_n 0, 1) := by decide +kernel
theorem dL_decide_3 : decode cL_decide 3 = .ok (.iload_n 1, 1) := by decide +kernel
theorem dL_decide_4 : decode cL_decide 4 = .ok (.iload_n 2, 1) := by decide +kernel
theorem dL_decide_5 : decode cL_decide 5 = .ok (.invokevirtual 55, 3) := by decide +kernel
theorem dL_decide_8 : decode cL_decide 8 = .ok (.i2l, 1) := by decide +kernel
theorem dL_decide_9 : decode cL_decide 9 = .ok (.lastore, 1) := by decide +kernel
theorem dL_decide_10 : decode cL_decide 10 = .ok (.goto 11, 3) := by decide +kernel
theorem dL_decide_13 : decode cL_decide 13 = .ok (.astore 4, 2) := by decide +kernel
theorem dL_decide_15 : decode cL_decide 15 = .ok (.iconst 1, 1) := by decide +kernel
theorem dL_decide_16 : decode cL_decide 16 = .ok (.ireturn, 1) := by decide +kernel
theorem dL_decide_17 : decode cL_decide 17 = .ok (.astore 4, 2) := by decide +kernel
theorem dL_decide_19 : decode cL_decide 19 = .ok (.iconst 2, 1) := by decide +kernel
theorem dL_decide_20 : decode cL_decide 20 = .ok (.ireturn, 1) := by decide +kernel
theorem dL_decide_21 : decode cL_decide 21 = .ok (.iconst 0, 1) := by decide +kernel
theorem dL_decide_22 : decode cL_decide 22 = .ok (.ireturn, 1) := by decide +kernel
set_option maxRecDepth 20000 in
theorem ggL_pass_X2_pass : GoodIn wsL_pass wsX2_pass := goodIn_ca (goodIn_r _ [6, 7, 8, 9, 5, 10, 11, 12, 13, 14, 15, 16, 17, 18, 19, 20, 21, 22, 23, 24, 25, 26, 27, 28, 29, 30, 31, 32, 33, 34, 35, 36, 37, 38, 39, 40, 41, 42, 43, 44, 45, 46, 47, 48, 49, 50, 51, 52, 53, 54, 55, 56, 57, 58, 59, 60, 61, 62, 63, 64, 65, 66, 67, 68, 69, 70, 71, 72, 73, 74, 75, 76, 77, 78, 79, 80, 81, 82, 83, 84, 85] (by decide +kernel) (by decide +kernel)) (goodIn_sub (fun _ h => List.mem_cons_of_mem _ (List.mem_append_right _ h)) (by decide +kernel))
set_option maxRecDepth 20000 in
theorem gL_pass_X2_pass : GoodIn wsL_pass (wsV RL 59 RX2 yX2_pass wsX2_pass) := goodIn_app (goodIn_of _ (by decide +kernel)) ggL_pass_X2_pass
theorem dL_pass_0 : decode cL_pass 0 = .ok (.aload_n 2, 1) := by decide +kernel
theorem dL_pass_1 : decode cL_pass 1 = .ok (.iconst 0, 1) := by decide +kernel
theorem dL_pass_2 : decode cL_pass 2 = .ok (.aload_n 0, 1) := by decide +kernel
theorem dL_pass_3 : decode cL_pass 3 = .ok (.iload_n 1, 1) := by decide +kernel
theorem dL_pass_4 : decode cL_pass 4 = .ok (.invokevirtual 59, 3) := by decide +kernel
theorem dL_pass_7 : decode cL_pass 7 = .ok (.i2l, 1) := by decide +kernel
theorem dL_pass_8 : decode cL_pass 8 = .ok (.lastore, 1) := by decide +kernel
theorem dL_pass_9 : decode cL_pass 9 = .ok (.goto 6, 3) := by decide +kernel
theorem dL_pass_12 : decode cL_pass 12 = .ok (.astore_n 3, 1) := by decide +kernel
theorem dL_pass_13 : decode cL_pass 13 = .ok (.iconst 1, 1) := by decide +kernel
theorem dL_pass_14 : decode cL_pass 14 = .ok (.ireturn, 1) := by decide +kernel
theorem dL_pass_15 : decode cL_pass 15 = .ok (.iconst 0, 1) := by decide +kernel
theorem dL_pass_16 : decode cL_pass 16 = .ok (.ireturn, 1) := by decide +kernel
set_option maxRecDepth 20000 in
theorem ggL_lookUp_X2_lookUp : GoodIn wsL_lookUp wsX2_lookUp := goodIn_ca (goodIn_r _ [6, 7, 8, 9, 10, 11, 5, 12, 13, 14, 15, 16, 17, 18, 19, 20, 21, 22, 23, 24, 25, 26, 27, 28, 29, 30, 31, 32, 33, 34, 35, 36, 37, 38, 39, 40, 41, 42, 43, 44, 45, 46, 47, 48, 49, 50, 51, 52, 53, 54, 55, 56, 57, 58, 59, 60, 61, 62, 63] (by decide +kernel) (by decide +kernel)) (goodIn_sub (fun _ h => List.mem_cons_of_mem _ (List.mem_append_right _ h)) (by decide +kernel))
set_option maxRecDepth 20000 in
theorem gL_lookUp_X2_lookUp : GoodIn wsL_lookUp (wsV RL 62 RX2 yX2_lookUp wsX2_lookUp) := goodIn_app (goodIn_of _ (by decide +kernel)) ggL_lookUp_X2_lookUp
theorem dL_lookUp_0 : decode cL_lookUp 0 = .ok (.aload_n 3, 1) := by decide +kernel
theorem dL_lookUp_1 : decode cL_lookUp 1 = .ok (.iconst 0, 1) := by decide +kernel
theorem dL_lookUp_2 : decode cL_lookUp 2 = .ok (.aload_n 0, 1) := by decide +kernel
theorem dL_lookUp_3 : decode cL_lookUp 3 = .ok (.iload_n 1, 1) := by decide +kernel
theorem dL_lookUp_4 : decode cL_lookUp 4 = .ok (.iload_n 2, 1) := by decide +kernel
theorem dL_lookUp_5 : decode cL_lookUp 5 = .ok (.invokevirtual 62, 3) := by decide +kernel
theorem dL_lookUp_8 : decode cL_lookUp 8 = .ok (.i2l, 1) := by decide +kernel
theorem dL_lookUp_9 : decode cL_lookUp 9 = .ok (.lastore, 1) := by decide +kernel
theorem dL_lookUp_10 : decode cL_lookUp 10 = .ok (.goto 7, 3) := by decide +kernel
theorem dL_lookUp_13 : decode cL_lookUp 13 = .ok (.astore 4, 2) := by decide +kernel
theorem dL_lookUp_15 : decode cL_lookUp 15 = .ok (.iconst 1, 1) := by decide +kernel
theorem dL_lookUp_16 : decode cL_lookUp 16 = .ok (.ireturn, 1) := by decide +kernel
theorem dL_lookUp_17 : decode cL_lookUp 17 = .ok (.iconst 0, 1) := by decide +kernel
theorem dL_lookUp_18 : decode cL_lookUp 18 = .ok (.ireturn, 1) := by decide +kernel
set_option maxRecDepth 20000 in
theorem ggL_isStale_X2_isStale : GoodIn wsL_isStale wsX2_isStale := goodIn_ca (goodIn_r _ [6, 7, 8, 9, 10, 11, 5, 12, 13, 14, 15, 16, 17, 18, 19, 20, 21, 22, 23, 24, 25, 26, 27, 28, 29, 30, 31, 32, 33, 34, 35, 36, 37, 38, 39, 40, 41, 42, 43, 44, 45, 46, 47, 48, 49, 50, 51, 52, 53, 54, 55] (by decide +kernel) (by decide +kernel)) (goodIn_sub (fun _ h => List.mem_cons_of_mem _ (List.mem_append_right _ h)) (by decide +kernel))
set_option maxRecDepth 20000 in
theorem gL_isStale_X2_isStale : GoodIn wsL_isStale (wsV RL 65 RX2 yX2_isStale wsX2_isStale) := goodIn_app (goodIn_of _ (by decide +kernel)) ggL_isStale_X2_isStale
theorem dL_isStale_0 : decode cL_isStale 0 = .ok (.aload_n 3, 1) := by decide +kernel
theorem dL_isStale_1 : decode cL_isStale 1 = .ok (.iconst 0, 1) := by decide +kernel
theorem dL_isStale_2 : decode cL_isStale 2 = .ok (.aload_n 0, 1) := by decide +kernel
theorem dL_isStale_3 : decode cL_isStale 3 = .ok (.iload_n 1, 1) := by decide +kernel
theorem dL_isStale_4 : decode cL_isStale 4 = .ok (.iload_n 2, 1) := by decide +kernel
theorem dL_isStale_5 : decode cL_isStale 5 = .ok (.invokevirtual 65, 3) := by decide +kernel
theorem dL_isStale_8 : decode cL_isStale 8 = .ok (.ifCond .eq 7, 3) := by decide +kernel
theorem dL_isStale_11 : decode cL_isStale 11 = .ok (.lconst 1, 1) := by decide +kernel
theorem dL_isStale_12 : decode cL_isStale 12 = .ok (.goto 4, 3) := by decide +kernel
theorem dL_isStale_15 : decode cL_isStale 15 = .ok (.lconst 0, 1) := by decide +kernel
theorem dL_isStale_16 : decode cL_isStale 16 = .ok (.lastore, 1) := by decide +kernel
theorem dL_isStale_17 : decode cL_isStale 17 = .ok (.goto 7, 3) := by decide +kernel
theorem dL_isStale_20 : decode cL_isStale 20 = .ok (.astore 4, 2) := by decide +kernel
theorem dL_isStale_22 : decode cL_isStale 22 = .ok (.iconst 1, 1) := by decide +kernel
theorem dL_isStale_23 : decode cL_isStale 23 = .ok (.ireturn, 1) := by decide +kernel
theorem dL_isStale_24 : decode cL_isStale 24 = .ok (.iconst 0, 1) := by decide +kernel
theorem dL_isStale_25 : decode cL_isStale 25 = .ok (.ireturn, 1) := by decide +kernel
set_option maxRecDepth 20000 in
theorem ggL_flush_X2_flush : GoodIn wsL_flush wsX2_flush := goodIn_ca (goodIn_r _ [6, 7, 8, 9, 5, 10, 11, 12, 13, 14, 15, 16, 17, 18, 19, 20, 21, 22, 23, 24, 25, 26, 27] (by decide +kernel) (by decide +kernel)) (goodIn_sub (fun _ h => List.mem_cons_of_mem _ (List.mem_append_right _ h)) (by decide +kernel))
set_option maxRecDepth 20000 in
theorem gL_flush_X2_flush : GoodIn wsL_flush (wsV RL 69 RX2 yX2_flush wsX2_flush) := goodIn_app (goodIn_of _ (by decide +kernel)) ggL_flush_X2_flush
theorem dL_flush_0 : decode cL_flush 0 = .ok (.aload_n 2, 1) := by decide +kernel
theorem dL_flush_1 : decode cL_flush 1 = .ok (.iconst 0, 1) := by decide +kernel
theorem dL_flush_2 : decode cL_flush 2 = .ok (.aload_n 0, 1) := by decide +kernel
theorem dL_flush_3 : decode cL_flush 3 = .ok (.iload_n 1, 1) := by decide +kernel
theorem dL_flush_4 : decode cL_flush 4 = .ok (.invokevirtual 69, 3) := by decide +kernel
theorem dL_flush_7 : decode cL_flush 7 = .ok (.i2l, 1) := by decide +kernel
theorem dL_flush_8 : decode cL_flush 8 = .ok (.lastore, 1) := by decide +kernel
theorem dL_flush_9 : decode cL_flush 9 = .ok (.goto 6, 3) := by decide +kernel
theorem dL_flush_12 : decode cL_flush 12 = .ok (.astore_n 3, 1) := by decide +kernel
theorem dL_flush_13 : decode cL_flush 13 = .ok (.iconst 1, 1) := by decide +kernel
theorem dL_flush_14 : decode cL_flush 14 = .ok (.ireturn, 1) := by decide +kernel
theorem dL_flush_15 : decode cL_flush 15 = .ok (.iconst 0, 1) := by decide +kernel
theorem dL_flush_16 : decode cL_flush 16 = .ok (.ireturn, 1) := by decide +kernel
set_option maxRecDepth 20000 in
theorem ggL_law_X2_init : GoodIn wsL_law wsX2_init := goodIn_r _ [9, 10, 11, 12, 13, 14, 15, 16, 17, 18, 19, 20, 21, 22, 23, 24, 25, 26, 27, 28, 29, 30, 31, 32, 33, 34, 35, 36, 37, 492, 493, 494, 495, 496, 497, 516, 517, 518, 519, 520, 521, 522, 523, 524, 525, 526, 527, 528, 529, 530] (by decide +kernel) (by decide +kernel)
set_option maxRecDepth 20000 in
theorem gL_law_X2_init : GoodIn wsL_law (wsX2_init) := ggL_law_X2_init
set_option maxRecDepth 20000 in
theorem ggL_law_X3_init : GoodIn wsL_law wsX3_init := goodIn_r _ [40, 41, 11, 12, 13, 42, 43, 44, 45, 46, 47, 48, 49, 50, 51, 52, 53, 54, 55, 498, 499, 500, 501, 502, 503, 504, 505, 506, 507, 508, 509, 510, 511, 512, 513, 514, 515] (by decide +kernel) (by decide +kernel)
set_option maxRecDepth 20000 in
theorem gL_law_X3_init : GoodIn wsL_law (wsX3_init) := ggL_law_X3_init
set_option maxRecDepth 20000 in
theorem ggL_law_L_deposit : GoodIn wsL_law wsL_deposit := goodIn_ca (goodIn_ca (goodIn_r _ [59, 60, 61, 62, 63, 64, 2, 65, 66, 14, 67, 68, 69, 70, 71, 72, 73, 74, 75, 76, 492, 493, 494, 495, 496, 497] (by decide +kernel) (by decide +kernel)) (goodIn_sub (fun _ h => List.mem_append_left _ (List.mem_append_left _ (List.mem_append_right _ h))) (by decide +kernel))) (goodIn_sub (fun _ h => List.mem_append_left _ (List.mem_append_right _ h)) (by decide +kernel))
set_option maxRecDepth 20000 in
theorem gL_law_L_deposit : GoodIn wsL_law (va_wsS RL 76 yL_deposit wsL_deposit) := goodIn_app (goodIn_of _ (by decide +kernel)) ggL_law_L_deposit
set_option maxRecDepth 20000 in
theorem ggL_law_X3_deposit : GoodIn wsL_law wsX3_deposit := goodIn_r _ [80, 81, 42, 82, 83, 5, 84, 85, 86, 87, 88, 89, 90, 91, 92, 498, 499, 500, 501, 502, 503, 504, 505, 506, 507, 508, 509, 510, 511, 512, 513, 514, 515] (by decide +kernel) (by decide +kernel)
set_option maxRecDepth 20000 in
theorem gL_law_X3_deposit : GoodIn wsL_law (wsV RL 81 RX3 yX3_deposit wsX3_deposit) := goodIn_app (goodIn_of _ (by decide +kernel)) ggL_law_X3_deposit
set_option maxRecDepth 20000 in
theorem ggL_law_X3_thrown : GoodIn wsL_law wsX3_thrown := goodIn_r _ [96, 92, 498, 499, 500, 501, 502, 503, 504, 505, 506, 507, 508, 509, 510, 511, 512, 513, 514, 515] (by decide +kernel) (by decide +kernel)
set_option maxRecDepth 20000 in
theorem gL_law_X3_thrown : GoodIn wsL_law (wsV RL 82 RX3 yX3_thrown wsX3_thrown) := goodIn_app (goodIn_of _ (by decide +kernel)) ggL_law_X3_thrown
set_option maxRecDepth 20000 in
theorem ggL_law_L_funds : GoodIn wsL_law wsL_funds := goodIn_ca (goodIn_r _ [99, 60, 100, 101, 102, 2, 103, 14, 67, 68, 69, 70, 71, 492, 493, 494, 495, 496, 497] (by decide +kernel) (by decide +kernel)) (goodIn_sub (fun _ h => List.mem_append_left _ (List.mem_append_left _ (List.mem_append_right _ h))) (by decide +kernel))
set_option maxRecDepth 20000 in
theorem gL_law_L_funds : GoodIn wsL_law (va_wsS RL 86 yL_funds wsL_funds) := goodIn_app (goodIn_of _ (by decide +kernel)) ggL_law_L_funds
set_option maxRecDepth 20000 in
theorem ggL_law_X3_funds : GoodIn wsL_law wsX3_funds := goodIn_r _ [107, 42, 82, 83, 5, 84, 85, 86, 87, 88, 89, 90, 91, 92, 498, 499, 500, 501, 502, 503, 504, 505, 506, 507, 508, 509, 510, 511, 512, 513, 514, 515] (by decide +kernel) (by decide +kernel)
set_option maxRecDepth 20000 in
theorem gL_law_X3_funds : GoodIn wsL_law (wsV RL 89 RX3 yX3_funds wsX3_funds) := goodIn_app (goodIn_of _ (by decide +kernel)) ggL_law_X3_funds
set_option maxRecDepth 20000 in
theorem ggL_law_L_bid : GoodIn wsL_law wsL_bid := goodIn_ca (goodIn_ca (goodIn_ca (goodIn_r _ [110, 60, 61, 111, 112, 113, 114, 2, 115, 66, 16, 116, 117, 67, 68, 69, 70, 71, 72, 73, 74, 75, 76, 118, 119, 120, 121, 122, 123, 20, 124, 125, 26, 126, 492, 493, 494, 495, 496, 497, 516, 517, 518, 519, 520, 521, 522, 523, 524, 525, 526] (by decide +kernel) (by decide +kernel)) (goodIn_sub (fun _ h => List.mem_append_left _ (List.mem_append_left _ (List.mem_append_right _ h))) (by decide +kernel))) (goodIn_sub (fun _ h => List.mem_append_left _ (List.mem_append_right _ h)) (by decide +kernel))) (goodIn_sub (fun _ h => List.mem_append_right _ h) (by decide +kernel))
set_option maxRecDepth 20000 in
theorem gL_law_L_bid : GoodIn wsL_law (va_wsS RL 90 yL_bid wsL_bid) := goodIn_app (goodIn_of _ (by decide +kernel)) ggL_law_L_bid
set_option maxRecDepth 20000 in
theorem ggL_law_X3_bid : GoodIn wsL_law wsX3_bid := goodIn_r _ [130, 81, 43, 45, 131, 51, 52, 132, 82, 83, 5, 84, 85, 86, 87, 133, 134, 135, 88, 89, 90, 91, 92, 498, 499, 500, 501, 502, 503, 504, 505, 506, 507, 508, 509, 510, 511, 512, 513, 514, 515] (by decide +kernel) (by decide +kernel)
set_option maxRecDepth 20000 in
theorem gL_law_X3_bid : GoodIn wsL_law (wsV RL 93 RX3 yX3_bid wsX3_bid) := goodIn_app (goodIn_of _ (by decide +kernel)) ggL_law_X3_bid
set_option maxRecDepth 20000 in
theorem ggL_law_L_bids : GoodIn wsL_law wsL_bids := goodIn_ca (goodIn_r _ [138, 60, 139, 140, 141, 2, 142, 16, 67, 68, 69, 70, 71, 143, 20, 144, 145, 28, 492, 493, 494, 495, 496, 497, 516, 517, 518, 519, 520, 521, 522, 523, 524, 525, 526] (by decide +kernel) (by decide +kernel)) (goodIn_sub (fun _ h => List.mem_append_left _ (List.mem_append_left _ (List.mem_append_right _ h))) (by decide +kernel))
set_option maxRecDepth 20000 in
theorem gL_law_L_bids : GoodIn wsL_law (va_wsS RL 94 yL_bids wsL_bids) := goodIn_app (goodIn_of _ (by decide +kernel)) ggL_law_L_bids
set_option maxRecDepth 20000 in
theorem ggL_law_X3_bids : GoodIn wsL_law wsX3_bids := goodIn_r _ [149, 51, 133, 134, 5, 135, 85, 86, 87, 88, 89, 90, 91, 92, 498, 499, 500, 501, 502, 503, 504, 505, 506, 507, 508, 509, 510, 511, 512, 513, 514, 515] (by decide +kernel) (by decide +kernel)
set_option maxRecDepth 20000 in
theorem gL_law_X3_bids : GoodIn wsL_law (wsV RL 96 RX3 yX3_bids wsX3_bids) := goodIn_app (goodIn_of _ (by decide +kernel)) ggL_law_X3_bids
set_option maxRecDepth 20000 in
theorem ggL_law_L_renew : GoodIn wsL_law wsL_renew := goodIn_ca (goodIn_ca (goodIn_ca (goodIn_r _ [152, 60, 61, 111, 153, 154, 155, 2, 156, 16, 116, 67, 68, 69, 70, 71, 72, 73, 74, 75, 76, 157, 158, 159, 160, 161, 162, 163, 14, 118, 119, 120, 121, 122, 164, 165, 166, 167, 168, 492, 493, 494, 495, 496, 497, 516, 517, 518, 519, 520, 521, 522, 523, 524, 525, 526] (by decide +kernel) (by decide +kernel)) (goodIn_sub (fun _ h => List.mem_append_left _ (List.mem_append_left _ (List.mem_append_right _ h))) (by decide +kernel))) (goodIn_sub (fun _ h => List.mem_append_left _ (List.mem_append_right _ h)) (by decide +kernel))) (goodIn_sub (fun _ h => List.mem_append_right _ h) (by decide +kernel))
set_option maxRecDepth 20000 in
theorem gL_law_L_renew : GoodIn wsL_law (va_wsS RL 97 yL_renew wsL_renew) := goodIn_app (goodIn_of _ (by decide +kernel)) ggL_law_L_renew
set_option maxRecDepth 20000 in
theorem ggL_law_X3_renew : GoodIn wsL_law wsX3_renew := goodIn_r _ [172, 43, 45, 131, 42, 44, 133, 134, 5, 135, 85, 86, 87, 88, 89, 90, 91, 92, 173, 174, 175, 176, 177, 498, 499, 500, 501, 502, 503, 504, 505, 506, 507, 508, 509, 510, 511, 512, 513, 514, 515] (by decide +kernel) (by decide +kernel)
set_option maxRecDepth 20000 in
theorem gL_law_X3_renew : GoodIn wsL_law (wsV RL 99 RX3 yX3_renew wsX3_renew) := goodIn_app (goodIn_of _ (by decide +kernel)) ggL_law_X3_renew
set_option maxRecDepth 20000 in
theorem ggL_law_L_redeem : GoodIn wsL_law wsL_redeem := goodIn_ca (goodIn_ca (goodIn_r _ [180, 60, 111, 181, 182, 183, 2, 184, 16, 116, 67, 68, 69, 70, 71, 160, 161, 162, 163, 14, 118, 119, 120, 121, 122, 164, 165, 166, 167, 168, 185, 20, 186, 187, 26, 27, 188, 189, 190, 191, 192, 193, 194, 28, 195, 196, 197, 198, 492, 493, 494, 495, 496, 497, 516, 517, 518, 519, 520, 521, 522, 523, 524, 525, 526] (by decide +kernel) (by decide +kernel)) (goodIn_sub (fun _ h => List.mem_append_left _ (List.mem_append_left _ (List.mem_append_right _ h))) (by decide +kernel))) (goodIn_sub (fun _ h => List.mem_append_right _ h) (by decide +kernel))
set_option maxRecDepth 20000 in
theorem gL_law_L_redeem : GoodIn wsL_law (va_wsS RL 100 yL_redeem wsL_redeem) := goodIn_app (goodIn_of _ (by decide +kernel)) ggL_law_L_redeem
set_option maxRecDepth 20000 in
theorem ggL_law_X3_redeem : GoodIn wsL_law wsX3_redeem := goodIn_r _ [202, 43, 42, 44, 45, 133, 134, 5, 135, 85, 86, 87, 88, 89, 90, 91, 92, 173, 174, 175, 176, 177, 203, 204, 205, 206, 131, 46, 47, 498, 499, 500, 501, 502, 503, 504, 505, 506, 507, 508, 509, 510, 511, 512, 513, 514, 515] (by decide +kernel) (by decide +kernel)
set_option maxRecDepth 20000 in
theorem gL_law_X3_redeem : GoodIn wsL_law (wsV RL 102 RX3 yX3_redeem wsX3_redeem) := goodIn_app (goodIn_of _ (by decide +kernel)) ggL_law_X3_redeem
set_option maxRecDepth 20000 in
theorem ggL_law_L_setRecord : GoodIn wsL_law wsL_setRecord := goodIn_ca (goodIn_ca (goodIn_ca (goodIn_r _ [209, 60, 61, 111, 210, 211, 212, 2, 213, 16, 67, 68, 69, 70, 71, 72, 73, 74, 75, 76, 118, 119, 120, 121, 122, 492, 493, 494, 495, 496, 497, 516, 517, 518, 519, 520, 521, 522, 523, 524, 525, 526] (by decide +kernel) (by decide +kernel)) (goodIn_sub (fun _ h => List.mem_append_left _ (List.mem_append_left _ (List.mem_append_right _ h))) (by decide +kernel))) (goodIn_sub (fun _ h => List.mem_append_left _ (List.mem_append_right _ h)) (by decide +kernel))) (goodIn_sub (fun _ h => List.mem_append_right _ h) (by decide +kernel))
set_option maxRecDepth 20000 in
theorem gL_law_L_setRecord : GoodIn wsL_law (va_wsS RL 103 yL_setRecord wsL_setRecord) := goodIn_app (goodIn_of _ (by decide +kernel)) ggL_law_L_setRecord
set_option maxRecDepth 20000 in
theorem ggL_law_X3_setRecord : GoodIn wsL_law wsX3_setRecord := goodIn_r _ [217, 43, 46, 47, 133, 134, 5, 135, 85, 86, 87, 88, 89, 90, 91, 92, 498, 499, 500, 501, 502, 503, 504, 505, 506, 507, 508, 509, 510, 511, 512, 513, 514, 515] (by decide +kernel) (by decide +kernel)
set_option maxRecDepth 20000 in
theorem gL_law_X3_setRecord : GoodIn wsL_law (wsV RL 105 RX3 yX3_setRecord wsX3_setRecord) := goodIn_app (goodIn_of _ (by decide +kernel)) ggL_law_X3_setRecord
set_option maxRecDepth 20000 in
theorem ggL_law_L_state : GoodIn wsL_law wsL_state := goodIn_ca (goodIn_r _ [220, 60, 221, 222, 223, 2, 224, 16, 67, 68, 69, 70, 71, 492, 493, 494, 495, 496, 497, 516, 517, 518, 519, 520, 521, 522, 523, 524, 525, 526] (by decide +kernel) (by decide +kernel)) (goodIn_sub (fun _ h => List.mem_append_left _ (List.mem_append_left _ (List.mem_append_right _ h))) (by decide +kernel))
set_option maxRecDepth 20000 in
theorem gL_law_L_state : GoodIn wsL_law (va_wsS RL 106 yL_state wsL_state) := goodIn_app (goodIn_of _ (by decide +kernel)) ggL_law_L_state
set_option maxRecDepth 20000 in
theorem ggL_law_X3_state : GoodIn wsL_law wsX3_state := goodIn_r _ [228, 43, 133, 134, 5, 135, 85, 86, 87, 88, 89, 90, 91, 92, 498, 499, 500, 501, 502, 503, 504, 505, 506, 507, 508, 509, 510, 511, 512, 513, 514, 515] (by decide +kernel) (by decide +kernel)
set_option maxRecDepth 20000 in
theorem gL_law_X3_state : GoodIn wsL_law (wsV RL 108 RX3 yX3_state wsX3_state) := goodIn_app (goodIn_of _ (by decide +kernel)) ggL_law_X3_state
set_option maxRecDepth 20000 in
theorem ggL_law_L_sign : GoodIn wsL_law wsL_sign := goodIn_ca (goodIn_r _ [231, 60, 232, 233, 234, 2, 235, 16, 67, 68, 69, 70, 71, 236, 237, 238, 239, 240, 241, 242, 243, 244, 245, 246, 247, 248, 249, 250, 251, 252, 253, 254, 255, 256, 257, 258, 259, 260, 261, 262, 263, 264, 265, 266, 267, 268, 269, 270, 271, 272, 273, 274, 275, 276, 277, 278, 279, 280, 281, 282, 283, 284, 285, 286, 287, 492, 493, 494, 495, 496, 497, 516, 517, 518, 519, 520, 521, 522, 523, 524, 525, 526] (by decide +kernel) (by decide +kernel)) (goodIn_sub (fun _ h => List.mem_append_left _ (List.mem_append_left _ (List.mem_append_right _ h))) (by decide +kernel))
set_option maxRecDepth 20000 in
theorem gL_law_L_sign : GoodIn wsL_law (va_wsS RL 109 yL_sign wsL_sign) := goodIn_app (goodIn_of _ (by decide +kernel)) ggL_law_L_sign
set_option maxRecDepth 20000 in
theorem ggL_law_X3_sign : GoodIn wsL_law wsX3_sign := goodIn_r _ [291, 133, 134, 5, 135, 85, 86, 87, 292, 293, 294, 295, 43, 44, 296, 297, 298, 88, 89, 90, 91, 92, 498, 499, 500, 501, 502, 503, 504, 505, 506, 507, 508, 509, 510, 511, 512, 513, 514, 515] (by decide +kernel) (by decide +kernel)
set_option maxRecDepth 20000 in
theorem gL_law_X3_sign : GoodIn wsL_law (wsV RL 111 RX3 yX3_sign wsX3_sign) := goodIn_app (goodIn_of _ (by decide +kernel)) ggL_law_X3_sign
set_option maxRecDepth 20000 in
theorem ggL_law_L_owner : GoodIn wsL_law wsL_owner := goodIn_ca (goodIn_r _ [301, 60, 302, 303, 304, 2, 305, 16, 67, 68, 69, 70, 71, 492, 493, 494, 495, 496, 497, 516, 517, 518, 519, 520, 521, 522, 523, 524, 525, 526] (by decide +kernel) (by decide +kernel)) (goodIn_sub (fun _ h => List.mem_append_left _ (List.mem_append_left _ (List.mem_append_right _ h))) (by decide +kernel))
set_option maxRecDepth 20000 in
theorem gL_law_L_owner : GoodIn wsL_law (va_wsS RL 112 yL_owner wsL_owner) := goodIn_app (goodIn_of _ (by decide +kernel)) ggL_law_L_owner
set_option maxRecDepth 20000 in
theorem ggL_law_X3_owner : GoodIn wsL_law wsX3_owner := goodIn_r _ [309, 44, 133, 134, 5, 135, 85, 86, 87, 88, 89, 90, 91, 92, 498, 499, 500, 501, 502, 503, 504, 505, 506, 507, 508, 509, 510, 511, 512, 513, 514, 515] (by decide +kernel) (by decide +kernel)
set_option maxRecDepth 20000 in
theorem gL_law_X3_owner : GoodIn wsL_law (wsV RL 114 RX3 yX3_owner wsX3_owner) := goodIn_app (goodIn_of _ (by decide +kernel)) ggL_law_X3_owner
set_option maxRecDepth 20000 in
theorem ggL_law_L_next : GoodIn wsL_law wsL_next := goodIn_ca (goodIn_r _ [312, 60, 313, 314, 315, 2, 316, 16, 67, 68, 69, 70, 71, 317, 20, 318, 319, 26, 126, 188, 492, 493, 494, 495, 496, 497, 516, 517, 518, 519, 520, 521, 522, 523, 524, 525, 526] (by decide +kernel) (by decide +kernel)) (goodIn_sub (fun _ h => List.mem_append_left _ (List.mem_append_left _ (List.mem_append_right _ h))) (by decide +kernel))
set_option maxRecDepth 20000 in
theorem gL_law_L_next : GoodIn wsL_law (va_wsS RL 115 yL_next wsL_next) := goodIn_app (goodIn_of _ (by decide +kernel)) ggL_law_L_next
set_option maxRecDepth 20000 in
theorem ggL_law_X3_next : GoodIn wsL_law wsX3_next := goodIn_r _ [323, 133, 134, 5, 135, 85, 86, 87, 88, 89, 90, 91, 92, 324, 325, 326, 327, 43, 45, 498, 499, 500, 501, 502, 503, 504, 505, 506, 507, 508, 509, 510, 511, 512, 513, 514, 515] (by decide +kernel) (by decide +kernel)
set_option maxRecDepth 20000 in
theorem gL_law_X3_next : GoodIn wsL_law (wsV RL 117 RX3 yX3_next wsX3_next) := goodIn_app (goodIn_of _ (by decide +kernel)) ggL_law_X3_next
set_option maxRecDepth 20000 in
theorem ggL_law_L_dispute : GoodIn wsL_law wsL_dispute := goodIn_ca (goodIn_ca (goodIn_r _ [330, 60, 111, 331, 332, 333, 2, 334, 16, 116, 67, 68, 69, 70, 71, 157, 158, 159, 118, 119, 120, 121, 122, 335, 20, 336, 337, 26, 338, 339, 340, 191, 192, 193, 194, 28, 195, 196, 197, 198, 492, 493, 494, 495, 496, 497, 516, 517, 518, 519, 520, 521, 522, 523, 524, 525, 526] (by decide +kernel) (by decide +kernel)) (goodIn_sub (fun _ h => List.mem_append_left _ (List.mem_append_left _ (List.mem_append_right _ h))) (by decide +kernel))) (goodIn_sub (fun _ h => List.mem_append_right _ h) (by decide +kernel))
set_option maxRecDepth 20000 in
theorem gL_law_L_dispute : GoodIn wsL_law (va_wsS RL 118 yL_dispute wsL_dispute) := goodIn_app (goodIn_of _ (by decide +kernel)) ggL_law_L_dispute
set_option maxRecDepth 20000 in
theorem ggL_law_X3_dispute : GoodIn wsL_law wsX3_dispute := goodIn_r _ [344, 43, 44, 50, 48, 49, 131, 82, 83, 5, 84, 85, 86, 87, 133, 134, 135, 88, 89, 90, 91, 92, 345, 346, 347, 348, 51, 498, 499, 500, 501, 502, 503, 504, 505, 506, 507, 508, 509, 510, 511, 512, 513, 514, 515] (by decide +kernel) (by decide +kernel)
set_option maxRecDepth 20000 in
theorem gL_law_X3_dispute : GoodIn wsL_law (wsV RL 120 RX3 yX3_dispute wsX3_dispute) := goodIn_app (goodIn_of _ (by decide +kernel)) ggL_law_X3_dispute
set_option maxRecDepth 20000 in
theorem ggL_law_L_decide : GoodIn wsL_law wsL_decide := goodIn_ca (goodIn_ca (goodIn_r _ [351, 60, 111, 352, 353, 354, 2, 355, 16, 116, 67, 68, 69, 70, 71, 118, 119, 120, 121, 122, 356, 20, 357, 358, 338, 26, 188, 340, 339, 27, 359, 185, 186, 187, 189, 190, 191, 192, 193, 194, 28, 195, 196, 197, 198, 360, 361, 362, 363, 492, 493, 494, 495, 496, 497, 516, 517, 518, 519, 520, 521, 522, 523, 524, 525, 526] (by decide +kernel) (by decide +kernel)) (goodIn_sub (fun _ h => List.mem_append_left _ (List.mem_append_left _ (List.mem_append_right _ h))) (by decide +kernel))) (goodIn_sub (fun _ h => List.mem_append_right _ h) (by decide +kernel))
set_option maxRecDepth 20000 in
theorem gL_law_L_decide : GoodIn wsL_law (va_wsS RL 121 yL_decide wsL_decide) := goodIn_app (goodIn_of _ (by decide +kernel)) ggL_law_L_decide
set_option maxRecDepth 20000 in
theorem ggL_law_X3_decide : GoodIn wsL_law wsX3_decide := goodIn_r _ [367, 43, 50, 48, 45, 131, 49, 44, 133, 134, 5, 135, 85, 86, 87, 88, 89, 90, 91, 92, 203, 204, 205, 206, 46, 47, 498, 499, 500, 501, 502, 503, 504, 505, 506, 507, 508, 509, 510, 511, 512, 513, 514, 515] (by decide +kernel) (by decide +kernel)
set_option maxRecDepth 20000 in
theorem gL_law_X3_decide : GoodIn wsL_law (wsV RL 124 RX3 yX3_decide wsX3_decide) := goodIn_app (goodIn_of _ (by decide +kernel)) ggL_law_X3_decide
set_option maxRecDepth 20000 in
theorem ggL_law_L_pass : GoodIn wsL_law wsL_pass := goodIn_ca (goodIn_r _ [370, 61, 371, 372, 373, 2, 374, 116, 72, 73, 74, 75, 76, 375, 376, 377, 378, 16, 317, 20, 318, 319, 26, 126, 188, 379, 380, 381, 360, 361, 362, 363, 27, 191, 192, 193, 194, 28, 195, 196, 197, 198, 382, 383, 384, 385, 386, 387, 388, 389, 160, 161, 162, 163, 14, 390, 391, 392, 29, 164, 165, 166, 167, 168, 185, 186, 187, 189, 190, 492, 493, 494, 495, 496, 497, 516, 517, 518, 519, 520, 521, 522, 523, 524, 525, 526] (by decide +kernel) (by decide +kernel)) (goodIn_sub (fun _ h => List.mem_append_left _ (List.mem_append_right _ h)) (by decide +kernel))
set_option maxRecDepth 20000 in
theorem gL_law_L_pass : GoodIn wsL_law (va_wsS RL 125 yL_pass wsL_pass) := goodIn_app (goodIn_of _ (by decide +kernel)) ggL_law_L_pass
set_option maxRecDepth 20000 in
theorem ggL_law_X3_pass : GoodIn wsL_law wsX3_pass := goodIn_r _ [396, 131, 85, 86, 5, 87, 88, 89, 90, 91, 92, 397, 398, 399, 400, 43, 44, 324, 325, 326, 327, 45, 401, 402, 403, 404, 51, 405, 406, 407, 408, 42, 52, 345, 346, 347, 348, 173, 174, 175, 176, 177, 203, 204, 205, 206, 46, 47, 498, 499, 500, 501, 502, 503, 504, 505, 506, 507, 508, 509, 510, 511, 512, 513, 514, 515] (by decide +kernel) (by decide +kernel)
set_option maxRecDepth 20000 in
theorem gL_law_X3_pass : GoodIn wsL_law (wsV RL 127 RX3 yX3_pass wsX3_pass) := goodIn_app (goodIn_of _ (by decide +kernel)) ggL_law_X3_pass
set_option maxRecDepth 20000 in
theorem ggL_law_X2_today : GoodIn wsL_law wsX2_today := goodIn_r _ [412, 116, 492, 493, 494, 495, 496, 497] (by decide +kernel) (by decide +kernel)
set_option maxRecDepth 20000 in
theorem gL_law_X2_today : GoodIn wsL_law (wsV RL 128 RX2 yX2_today wsX2_today) := goodIn_app (goodIn_of _ (by decide +kernel)) ggL_law_X2_today
set_option maxRecDepth 20000 in
theorem ggL_law_X3_today : GoodIn wsL_law wsX3_today := goodIn_r _ [416, 92, 131, 498, 499, 500, 501, 502, 503, 504, 505, 506, 507, 508, 509, 510, 511, 512, 513, 514, 515] (by decide +kernel) (by decide +kernel)
set_option maxRecDepth 20000 in
theorem gL_law_X3_today : GoodIn wsL_law (wsV RL 131 RX3 yX3_today wsX3_today) := goodIn_app (goodIn_of _ (by decide +kernel)) ggL_law_X3_today
set_option maxRecDepth 20000 in
theorem ggL_law_X2_takings : GoodIn wsL_law wsX2_takings := goodIn_r _ [420, 168, 492, 493, 494, 495, 496, 497] (by decide +kernel) (by decide +kernel)
set_option maxRecDepth 20000 in
theorem gL_law_X2_takings : GoodIn wsL_law (wsV RL 132 RX2 yX2_takings wsX2_takings) := goodIn_app (goodIn_of _ (by decide +kernel)) ggL_law_X2_takings
set_option maxRecDepth 20000 in
theorem ggL_law_X3_takings : GoodIn wsL_law wsX3_takings := goodIn_r _ [424, 92, 177, 498, 499, 500, 501, 502, 503, 504, 505, 506, 507, 508, 509, 510, 511, 512, 513, 514, 515] (by decide +kernel) (by decide +kernel)
set_option maxRecDepth 20000 in
theorem gL_law_X3_takings : GoodIn wsL_law (wsV RL 135 RX3 yX3_takings wsX3_takings) := goodIn_app (goodIn_of _ (by decide +kernel)) ggL_law_X3_takings
set_option maxRecDepth 20000 in
theorem ggL_law_L_lookUp : GoodIn wsL_law wsL_lookUp := goodIn_ca (goodIn_r _ [427, 60, 428, 429, 430, 2, 431, 18, 116, 16, 67, 68, 69, 70, 71, 432, 22, 433, 434, 34, 37, 36, 435, 20, 436, 437, 189, 438, 439, 440, 441, 26, 338, 158, 159, 442, 443, 444, 190, 445, 446, 447, 35, 492, 493, 494, 495, 496, 497, 527, 528, 529, 530, 516, 517, 518, 519, 520, 521, 522, 523, 524, 525, 526] (by decide +kernel) (by decide +kernel)) (goodIn_sub (fun _ h => List.mem_append_left _ (List.mem_append_left _ (List.mem_append_right _ h))) (by decide +kernel))
set_option maxRecDepth 20000 in
theorem gL_law_L_lookUp : GoodIn wsL_law (va_wsS RL 136 yL_lookUp wsL_lookUp) := goodIn_app (goodIn_of _ (by decide +kernel)) ggL_law_L_lookUp
set_option maxRecDepth 20000 in
theorem ggL_law_X3_lookUp : GoodIn wsL_law wsX3_lookUp := goodIn_r _ [451, 53, 131, 54, 55, 47, 452, 453, 5, 454, 85, 86, 87, 133, 134, 135, 88, 89, 90, 91, 92, 455, 456, 457, 458, 459, 460, 461, 462, 46, 463, 464, 465, 466, 43, 50, 498, 499, 500, 501, 502, 503, 504, 505, 506, 507, 508, 509, 510, 511, 512, 513, 514, 515] (by decide +kernel) (by decide +kernel)
set_option maxRecDepth 20000 in
theorem gL_law_X3_lookUp : GoodIn wsL_law (wsV RL 138 RX3 yX3_lookUp wsX3_lookUp) := goodIn_app (goodIn_of _ (by decide +kernel)) ggL_law_X3_lookUp
set_option maxRecDepth 20000 in
theorem ggL_law_L_isStale : GoodIn wsL_law wsL_isStale := goodIn_ca (goodIn_r _ [469, 60, 470, 471, 472, 2, 473, 18, 116, 16, 67, 68, 69, 70, 71, 432, 22, 433, 434, 34, 37, 36, 435, 20, 436, 437, 189, 438, 439, 440, 441, 26, 338, 158, 159, 492, 493, 494, 495, 496, 497, 527, 528, 529, 530, 516, 517, 518, 519, 520, 521, 522, 523, 524, 525, 526] (by decide +kernel) (by decide +kernel)) (goodIn_sub (fun _ h => List.mem_append_left _ (List.mem_append_left _ (List.mem_append_right _ h))) (by decide +kernel))
set_option maxRecDepth 20000 in
theorem gL_law_L_isStale : GoodIn wsL_law (va_wsS RL 139 yL_isStale wsL_isStale) := goodIn_app (goodIn_of _ (by decide +kernel)) ggL_law_L_isStale
set_option maxRecDepth 20000 in
theorem ggL_law_X3_isStale : GoodIn wsL_law wsX3_isStale := goodIn_r _ [477, 54, 452, 453, 5, 454, 85, 86, 87, 133, 134, 135, 88, 89, 90, 91, 92, 455, 456, 457, 458, 53, 131, 55, 459, 460, 461, 462, 46, 463, 464, 465, 466, 43, 50, 498, 499, 500, 501, 502, 503, 504, 505, 506, 507, 508, 509, 510, 511, 512, 513, 514, 515] (by decide +kernel) (by decide +kernel)
set_option maxRecDepth 20000 in
theorem gL_law_X3_isStale : GoodIn wsL_law (wsV RL 141 RX3 yX3_isStale wsX3_isStale) := goodIn_app (goodIn_of _ (by decide +kernel)) ggL_law_X3_isStale
set_option maxRecDepth 20000 in
theorem ggL_law_L_flush : GoodIn wsL_law wsL_flush := goodIn_ca (goodIn_r _ [480, 60, 481, 482, 483, 2, 484, 18, 67, 68, 69, 70, 71, 485, 22, 486, 487, 34, 492, 493, 494, 495, 496, 497, 527, 528, 529, 530] (by decide +kernel) (by decide +kernel)) (goodIn_sub (fun _ h => List.mem_append_left _ (List.mem_append_left _ (List.mem_append_right _ h))) (by decide +kernel))
set_option maxRecDepth 20000 in
theorem gL_law_L_flush : GoodIn wsL_law (va_wsS RL 142 yL_flush wsL_flush) := goodIn_app (goodIn_of _ (by decide +kernel)) ggL_law_L_flush
set_option maxRecDepth 20000 in
theorem ggL_law_X3_flush : GoodIn wsL_law wsX3_flush := goodIn_r _ [491, 53, 85, 86, 5, 87, 88, 89, 90, 91, 92, 498, 499, 500, 501, 502, 503, 504, 505, 506, 507, 508, 509, 510, 511, 512, 513, 514, 515] (by decide +kernel) (by decide +kernel)
set_option maxRecDepth 20000 in
theorem gL_law_X3_flush : GoodIn wsL_law (wsV RL 144 RX3 yX3_flush wsX3_flush) := goodIn_app (goodIn_of _ (by decide +kernel)) ggL_law_X3_flush
theorem dL_law_0 : decode cL_law 0 = .ok (.new 8, 3) := by decide +kernel
theorem dL_law_3 : decode cL_law 3 = .ok (.dup, 1) := by decide +kernel
theorem dL_law_4 : decode cL_law 4 = .ok (.invokespecial 72, 3) := by decide +kernel
theorem dL_law_7 : decode cL_law 7 = .ok (.astore_n 1, 1) := by decide +kernel
theorem dL_law_8 : decode cL_law 8 = .ok (.new 73, 3) := by decide +kernel
theorem dL_law_11 : decode cL_law 11 = .ok (.dup, 1) := by decide +kernel
theorem dL_law_12 : decode cL_law 12 = .ok (.invokespecial 75, 3) := by decide +kernel
theorem dL_law_15 : decode cL_law 15 = .ok (.astore_n 2, 1) := by decide +kernel
theorem dL_law_16 : decode cL_law 16 = .ok (.iconst 1, 1) := by decide +kernel
theorem dL_law_17 : decode cL_law 17 = .ok (.newarray .long, 2) := by decide +kernel
theorem dL_law_19 : decode cL_law 19 = .ok (.astore_n 3, 1) := by decide +kernel
theorem dL_law_20 : decode cL_law 20 = .ok (.iconst 0, 1) := by decide +kernel
theorem dL_law_21 : decode cL_law 21 = .ok (.istore 4, 2) := by decide +kernel
theorem dL_law_23 : decode cL_law 23 = .ok (.iload 4, 2) := by decide +kernel
theorem dL_law_25 : decode cL_law 25 = .ok (.aload_n 0, 1) := by decide +kernel
theorem dL_law_26 : decode cL_law 26 = .ok (.arraylength, 1) := by decide +kernel
theorem dL_law_27 : decode cL_law 27 = .ok (.iconst 4, 1) := by decide +kernel
theorem dL_law_28 : decode cL_law 28 = .ok (.isub, 1) := by decide +kernel
theorem dL_law_29 : decode cL_law 29 = .ok (.if_icmp .gt 1238, 3) := by decide +kernel
theorem dL_law_32 : decode cL_law 32 = .ok (.aload_n 0, 1) := by decide +kernel
theorem dL_law_33 : decode cL_law 33 = .ok (.iload 4, 2) := by decide +kernel
theorem dL_law_35 : decode cL_law 35 = .ok (.iaload, 1) := by decide +kernel
theorem dL_law_36 : decode cL_law 36 = .ok (.bipush 31, 2) := by decide +kernel
theorem dL_law_38 : decode cL_law 38 = .ok (.iand, 1) := by decide +kernel
theorem dL_law_39 : decode cL_law 39 = .ok (.tableswitch 1222 0 18 #[89, 157, 213, 293, 349, 417, 473, 553, 609, 677, 733, 789, 857, 941, 997, 1010, 1023, 1091, 1166], 89) := by decide +kernel
theorem dL_law_128 : decode cL_law 128 = .ok (.aload_n 1, 1) := by decide +kernel
theorem dL_law_129 : decode cL_law 129 = .ok (.aload_n 0, 1) := by decide +kernel
theorem dL_law_130 : decode cL_law 130 = .ok (.iload 4, 2) := by decide +kernel
theorem dL_law_132 : decode cL_law 132 = .ok (.iconst 1, 1) := by decide +kernel
theorem dL_law_133 : decode cL_law 133 = .ok (.iadd, 1) := by decide +kernel
theorem dL_law_134 : decode cL_law 134 = .ok (.iaload, 1) := by decide +kernel
theorem dL_law_135 : decode cL_law 135 = .ok (.aload_n 0, 1) := by decide +kernel
theorem dL_law_136 : decode cL_law 136 = .ok (.iload 4, 2) := by decide +kernel
theorem dL_law_138 : decode cL_law 138 = .ok (.iconst 2, 1) := by decide +kernel
theorem dL_law_139 : decode cL_law 139 = .ok (.iadd, 1) := by decide +kernel
theorem dL_law_140 : decode cL_law 140 = .ok (.iaload, 1) := by decide +kernel
theorem dL_law_141 : decode cL_law 141 = .ok (.aload_n 3, 1) := by decide +kernel
theorem dL_law_142 : decode cL_law 142 = .ok (.invokestatic 76, 3) := by decide +kernel
theorem dL_law_145 : decode cL_law 145 = .ok (.istore 5, 2) := by decide +kernel
theorem dL_law_147 : decode cL_law 147 = .ok (.aload_n 2, 1) := by decide +kernel
theorem dL_law_148 : decode cL_law 148 = .ok (.aload_n 0, 1) := by decide +kernel
theorem dL_law_149 : decode cL_law 149 = .ok (.iload 4, 2) := by decide +kernel
theorem dL_law_151 : decode cL_law 151 = .ok (.iconst 1, 1) := by decide +kernel
theorem dL_law_152 : decode cL_law 152 = .ok (.iadd, 1) := by decide +kernel
theorem dL_law_153 : decode cL_law 153 = .ok (.iaload, 1) := by decide +kernel
theorem dL_law_154 : decode cL_law 154 = .ok (.aload_n 0, 1) := by decide +kernel
theorem dL_law_155 : decode cL_law 155 = .ok (.iload 4, 2) := by decide +kernel
theorem dL_law_157 : decode cL_law 157 = .ok (.iconst 2, 1) := by decide +kernel
theorem dL_law_158 : decode cL_law 158 = .ok (.iadd, 1) := by decide +kernel
theorem dL_law_159 : decode cL_law 159 = .ok (.iaload, 1) := by decide +kernel
theorem dL_law_160 : decode cL_law 160 = .ok (.invokevirtual 81, 3) := by decide +kernel
theorem dL_law_163 : decode cL_law 163 = .ok (.istore 6, 2) := by decide +kernel
theorem dL_law_165 : decode cL_law 165 = .ok (.aload_n 2, 1) := by decide +kernel
theorem dL_law_166 : decode cL_law 166 = .ok (.invokevirtual 82, 3) := by decide +kernel
theorem dL_law_169 : decode cL_law 169 = .ok (.iload 5, 2) := by decide +kernel
theorem dL_law_171 : decode cL_law 171 = .ok (.if_icmp .eq 5, 3) := by decide +kernel
theorem dL_law_174 : decode cL_law 174 = .ok (.iconst 0, 1) := by decide +kernel
theorem dL_law_175 : decode cL_law 175 = .ok (.ireturn, 1) := by decide +kernel
theorem dL_law_176 : decode cL_law 176 = .ok (.iload 5, 2) := by decide +kernel
theorem dL_law_178 : decode cL_law 178 = .ok (.ifCond .ne 15, 3) := by decide +kernel
theorem dL_law_181 : decode cL_law 181 = .ok (.aload_n 3, 1) := by decide +kernel
theorem dL_law_182 : decode cL_law 182 = .ok (.iconst 0, 1) := by decide +kernel
theorem dL_law_183 : decode cL_law 183 = .ok (.laload, 1) := by decide +kernel
theorem dL_law_184 : decode cL_law 184 = .ok (.iload 6, 2) := by decide +kernel
theorem dL_law_186 : decode cL_law 186 = .ok (.i2l, 1) := by decide +kernel
theorem dL_law_187 : decode cL_law 187 = .ok (.lcmp, 1) := by decide +kernel
theorem dL_law_188 : decode cL_law 188 = .ok (.ifCond .eq 5, 3) := by decide +kernel
theorem dL_law_191 : decode cL_law 191 = .ok (.iconst 0, 1) := by decide +kernel
theorem dL_law_192 : decode cL_law 192 = .ok (.ireturn, 1) := by decide +kernel
theorem dL_law_193 : decode cL_law 193 = .ok (.goto 1068, 3) := by decide +kernel
theorem dL_law_196 : decode cL_law 196 = .ok (.aload_n 1, 1) := by decide +kernel
theorem dL_law_197 : decode cL_law 197 = .ok (.aload_n 0, 1) := by decide +kernel
theorem dL_law_198 : decode cL_law 198 = .ok (.iload 4, 2) := by decide +kernel
theorem dL_law_200 : decode cL_law 200 = .ok (.iconst 1, 1) := by decide +kernel
theorem dL_law_201 : decode cL_law 201 = .ok (.iadd, 1) := by decide +kernel
theorem dL_law_202 : decode cL_law 202 = .ok (.iaload, 1) := by decide +kernel
theorem dL_law_203 : decode cL_law 203 = .ok (.aload_n 3, 1) := by decide +kernel
theorem dL_law_204 : decode cL_law 204 = .ok (.invokestatic 86, 3) := by decide +kernel
theorem dL_law_207 : decode cL_law 207 = .ok (.istore 5, 2) := by decide +kernel
theorem dL_law_209 : decode cL_law 209 = .ok (.aload_n 2, 1) := by decide +kernel
theorem dL_law_210 : decode cL_law 210 = .ok (.aload_n 0, 1) := by decide +kernel
theorem dL_law_211 : decode cL_law 211 = .ok (.iload 4, 2) := by decide +kernel
theorem dL_law_213 : decode cL_law 213 = .ok (.iconst 1, 1) := by decide +kernel
theorem dL_law_214 : decode cL_law 214 = .ok (.iadd, 1) := by decide +kernel
theorem dL_law_215 : decode cL_law 215 = .ok (.iaload, 1) := by decide +kernel
theorem dL_law_216 : decode cL_law 216 = .ok (.invokevirtual 89, 3) := by decide +kernel
theorem dL_law_219 : decode cL_law 219 = .ok (.istore 6, 2) := by decide +kernel
theorem dL_law_221 : decode cL_law 221 = .ok (.aload_n 2, 1) := by decide +kernel
theorem dL_law_222 : decode cL_law 222 = .ok (.invokevirtual 82, 3) := by decide +kernel
theorem dL_law_225 : decode cL_law 225 = .ok (.iload 5, 2) := by decide +kernel
theorem dL_law_227 : decode cL_law 227 = .ok (.if_icmp .eq 5, 3) := by decide +kernel
theorem dL_law_230 : decode cL_law 230 = .ok (.iconst 0, 1) := by decide +kernel
theorem dL_law_231 : decode cL_law 231 = .ok (.ireturn, 1) := by decide +kernel
theorem dL_law_232 : decode cL_law 232 = .ok (.iload 5, 2) := by decide +kernel
theorem dL_law_234 : decode cL_law 234 = .ok (.ifCond .ne 15, 3) := by decide +kernel
theorem dL_law_237 : decode cL_law 237 = .ok (.aload_n 3, 1) := by decide +kernel
theorem dL_law_238 : decode cL_law 238 = .ok (.iconst 0, 1) := by decide +kernel
theorem dL_law_239 : decode cL_law 239 = .ok (.laload, 1) := by decide +kernel
theorem dL_law_240 : decode cL_law 240 = .ok (.iload 6, 2) := by decide +kernel
theorem dL_law_242 : decode cL_law 242 = .ok (.i2l, 1) := by decide +kernel
theorem dL_law_243 : decode cL_law 243 = .ok (.lcmp, 1) := by decide +kernel
theorem dL_law_244 : decode cL_law 244 = .ok (.ifCond .eq 5, 3) := by decide +kernel
theorem dL_law_247 : decode cL_law 247 = .ok (.iconst 0, 1) := by decide +kernel
theorem dL_law_248 : decode cL_law 248 = .ok (.ireturn, 1) := by decide +kernel
theorem dL_law_249 : decode cL_law 249 = .ok (.goto 1012, 3) := by decide +kernel
theorem dL_law_252 : decode cL_law 252 = .ok (.aload_n 1, 1) := by decide +kernel
theorem dL_law_253 : decode cL_law 253 = .ok (.aload_n 0, 1) := by decide +kernel
theorem dL_law_254 : decode cL_law 254 = .ok (.iload 4, 2) := by decide +kernel
theorem dL_law_256 : decode cL_law 256 = .ok (.iconst 1, 1) := by decide +kernel
theorem dL_law_257 : decode cL_law 257 = .ok (.iadd, 1) := by decide +kernel
theorem dL_law_258 : decode cL_law 258 = .ok (.iaload, 1) := by decide +kernel
theorem dL_law_259 : decode cL_law 259 = .ok (.aload_n 0, 1) := by decide +kernel
theorem dL_law_260 : decode cL_law 260 = .ok (.iload 4, 2) := by decide +kernel
theorem dL_law_262 : decode cL_law 262 = .ok (.iconst 2, 1) := by decide +kernel
theorem dL_law_263 : decode cL_law 263 = .ok (.iadd, 1) := by decide +kernel
theorem dL_law_264 : decode cL_law 264 = .ok (.iaload, 1) := by decide +kernel
theorem dL_law_265 : decode cL_law 265 = .ok (.aload_n 0, 1) := by decide +kernel
theorem dL_law_266 : decode cL_law 266 = .ok (.iload 4, 2) := by decide +kernel
theorem dL_law_268 : decode cL_law 268 = .ok (.iconst 3, 1) := by decide +kernel
theorem dL_law_269 : decode cL_law 269 = .ok (.iadd, 1) := by decide +kernel
theorem dL_law_270 : decode cL_law 270 = .ok (.iaload, 1) := by decide +kernel
theorem dL_law_271 : decode cL_law 271 = .ok (.aload_n 3, 1) := by decide +kernel
theorem dL_law_272 : decode cL_law 272 = .ok (.invokestatic 90, 3) := by decide +kernel
theorem dL_law_275 : decode cL_law 275 = .ok (.istore 5, 2) := by decide +kernel
theorem dL_law_277 : decode cL_law 277 = .ok (.aload_n 2, 1) := by decide +kernel
theorem dL_law_278 : decode cL_law 278 = .ok (.aload_n 0, 1) := by decide +kernel
theorem dL_law_279 : decode cL_law 279 = .ok (.iload 4, 2) := by decide +kernel
theorem dL_law_281 : decode cL_law 281 = .ok (.iconst 1, 1) := by decide +kernel
theorem dL_law_282 : decode cL_law 282 = .ok (.iadd, 1) := by decide +kernel
theorem dL_law_283 : decode cL_law 283 = .ok (.iaload, 1) := by decide +kernel
theorem dL_law_284 : decode cL_law 284 = .ok (.aload_n 0, 1) := by decide +kernel
theorem dL_law_285 : decode cL_law 285 = .ok (.iload 4, 2) := by decide +kernel
theorem dL_law_287 : decode cL_law 287 = .ok (.iconst 2, 1) := by decide +kernel
theorem dL_law_288 : decode cL_law 288 = .ok (.iadd, 1) := by decide +kernel
theorem dL_law_289 : decode cL_law 289 = .ok (.iaload, 1) := by decide +kernel
theorem dL_law_290 : decode cL_law 290 = .ok (.aload_n 0, 1) := by decide +kernel
theorem dL_law_291 : decode cL_law 291 = .ok (.iload 4, 2) := by decide +kernel
theorem dL_law_293 : decode cL_law 293 = .ok (.iconst 3, 1) := by decide +kernel
theorem dL_law_294 : decode cL_law 294 = .ok (.iadd, 1) := by decide +kernel
theorem dL_law_295 : decode cL_law 295 = .ok (.iaload, 1) := by decide +kernel
theorem dL_law_296 : decode cL_law 296 = .ok (.invokevirtual 93, 3) := by decide +kernel
theorem dL_law_299 : decode cL_law 299 = .ok (.istore 6, 2) := by decide +kernel
theorem dL_law_301 : decode cL_law 301 = .ok (.aload_n 2, 1) := by decide +kernel
theorem dL_law_302 : decode cL_law 302 = .ok (.invokevirtual 82, 3) := by decide +kernel
theorem dL_law_305 : decode cL_law 305 = .ok (.iload 5, 2) := by decide +kernel
theorem dL_law_307 : decode cL_law 307 = .ok (.if_icmp .eq 5, 3) := by decide +kernel
theorem dL_law_310 : decode cL_law 310 = .ok (.iconst 0, 1) := by decide +kernel
theorem dL_law_311 : decode cL_law 311 = .ok (.ireturn, 1) := by decide +kernel
theorem dL_law_312 : decode cL_law 312 = .ok (.iload 5, 2) := by decide +kernel
theorem dL_law_314 : decode cL_law 314 = .ok (.ifCond .ne 15, 3) := by decide +kernel
theorem dL_law_317 : decode cL_law 317 = .ok (.aload_n 3, 1) := by decide +kernel
theorem dL_law_318 : decode cL_law 318 = .ok (.iconst 0, 1) := by decide +kernel
theorem dL_law_319 : decode cL_law 319 = .ok (.laload, 1) := by decide +kernel
theorem dL_law_320 : decode cL_law 320 = .ok (.iload 6, 2) := by decide +kernel
theorem dL_law_322 : decode cL_law 322 = .ok (.i2l, 1) := by decide +kernel
theorem dL_law_323 : decode cL_law 323 = .ok (.lcmp, 1) := by decide +kernel
theorem dL_law_324 : decode cL_law 324 = .ok (.ifCond .eq 5, 3) := by decide +kernel
theorem dL_law_327 : decode cL_law 327 = .ok (.iconst 0, 1) := by decide +kernel
theorem dL_law_328 : decode cL_law 328 = .ok (.ireturn, 1) := by decide +kernel
theorem dL_law_329 : decode cL_law 329 = .ok (.goto 932, 3) := by decide +kernel
theorem dL_law_332 : decode cL_law 332 = .ok (.aload_n 1, 1) := by decide +kernel
theorem dL_law_333 : decode cL_law 333 = .ok (.aload_n 0, 1) := by decide +kernel
theorem dL_law_334 : decode cL_law 334 = .ok (.iload 4, 2) := by decide +kernel
theorem dL_law_336 : decode cL_law 336 = .ok (.iconst 1, 1) := by decide +kernel
theorem dL_law_337 : decode cL_law 337 = .ok (.iadd, 1) := by decide +kernel
theorem dL_law_338 : decode cL_law 338 = .ok (.iaload, 1) := by decide +kernel
theorem dL_law_339 : decode cL_law 339 = .ok (.aload_n 3, 1) := by decide +kernel
theorem dL_law_340 : decode cL_law 340 = .ok (.invokestatic 94, 3) := by decide +kernel
theorem dL_law_343 : decode cL_law 343 = .ok (.istore 5, 2) := by decide +kernel
theorem dL_law_345 : decode cL_law 345 = .ok (.aload_n 2, 1) := by decide +kernel
theorem dL_law_346 : decode cL_law 346 = .ok (.aload_n 0, 1) := by decide +kernel
theorem dL_law_347 : decode cL_law 347 = .ok (.iload 4, 2) := by decide +kernel
theorem dL_law_349 : decode cL_law 349 = .ok (.iconst 1, 1) := by decide +kernel
theorem dL_law_350 : decode cL_law 350 = .ok (.iadd, 1) := by decide +kernel
theorem dL_law_351 : decode cL_law 351 = .ok (.iaload, 1) := by decide +kernel
theorem dL_law_352 : decode cL_law 352 = .ok (.invokevirtual 96, 3) := by decide +kernel
theorem dL_law_355 : decode cL_law 355 = .ok (.istore 6, 2) := by decide +kernel
theorem dL_law_357 : decode cL_law 357 = .ok (.aload_n 2, 1) := by decide +kernel
theorem dL_law_358 : decode cL_law 358 = .ok (.invokevirtual 82, 3) := by decide +kernel
theorem dL_law_361 : decode cL_law 361 = .ok (.iload 5, 2) := by decide +kernel
theorem dL_law_363 : decode cL_law 363 = .ok (.if_icmp .eq 5, 3) := by decide +kernel
theorem dL_law_366 : decode cL_law 366 = .ok (.iconst 0, 1) := by decide +kernel
theorem dL_law_367 : decode cL_law 367 = .ok (.ireturn, 1) := by decide +kernel
theorem dL_law_368 : decode cL_law 368 = .ok (.iload 5, 2) := by decide +kernel
theorem dL_law_370 : decode cL_law 370 = .ok (.ifCond .ne 15, 3) := by decide +kernel
theorem dL_law_373 : decode cL_law 373 = .ok (.aload_n 3, 1) := by decide +kernel
theorem dL_law_374 : decode cL_law 374 = .ok (.iconst 0, 1) := by decide +kernel
theorem dL_law_375 : decode cL_law 375 = .ok (.laload, 1) := by decide +kernel
theorem dL_law_376 : decode cL_law 376 = .ok (.iload 6, 2) := by decide +kernel
theorem dL_law_378 : decode cL_law 378 = .ok (.i2l, 1) := by decide +kernel
theorem dL_law_379 : decode cL_law 379 = .ok (.lcmp, 1) := by decide +kernel
theorem dL_law_380 : decode cL_law 380 = .ok (.ifCond .eq 5, 3) := by decide +kernel
theorem dL_law_383 : decode cL_law 383 = .ok (.iconst 0, 1) := by decide +kernel
theorem dL_law_384 : decode cL_law 384 = .ok (.ireturn, 1) := by decide +kernel
theorem dL_law_385 : decode cL_law 385 = .ok (.goto 876, 3) := by decide +kernel
theorem dL_law_388 : decode cL_law 388 = .ok (.aload_n 1, 1) := by decide +kernel
theorem dL_law_389 : decode cL_law 389 = .ok (.aload_n 0, 1) := by decide +kernel
theorem dL_law_390 : decode cL_law 390 = .ok (.iload 4, 2) := by decide +kernel
theorem dL_law_392 : decode cL_law 392 = .ok (.iconst 1, 1) := by decide +kernel
theorem dL_law_393 : decode cL_law 393 = .ok (.iadd, 1) := by decide +kernel
theorem dL_law_394 : decode cL_law 394 = .ok (.iaload, 1) := by decide +kernel
theorem dL_law_395 : decode cL_law 395 = .ok (.aload_n 0, 1) := by decide +kernel
theorem dL_law_396 : decode cL_law 396 = .ok (.iload 4, 2) := by decide +kernel
theorem dL_law_398 : decode cL_law 398 = .ok (.iconst 2, 1) := by decide +kernel
theorem dL_law_399 : decode cL_law 399 = .ok (.iadd, 1) := by decide +kernel
theorem dL_law_400 : decode cL_law 400 = .ok (.iaload, 1) := by decide +kernel
theorem dL_law_401 : decode cL_law 401 = .ok (.aload_n 3, 1) := by decide +kernel
theorem dL_law_402 : decode cL_law 402 = .ok (.invokestatic 97, 3) := by decide +kernel
theorem dL_law_405 : decode cL_law 405 = .ok (.istore 5, 2) := by decide +kernel
theorem dL_law_407 : decode cL_law 407 = .ok (.aload_n 2, 1) := by decide +kernel
theorem dL_law_408 : decode cL_law 408 = .ok (.aload_n 0, 1) := by decide +kernel
theorem dL_law_409 : decode cL_law 409 = .ok (.iload 4, 2) := by decide +kernel
theorem dL_law_411 : decode cL_law 411 = .ok (.iconst 1, 1) := by decide +kernel
theorem dL_law_412 : decode cL_law 412 = .ok (.iadd, 1) := by decide +kernel
theorem dL_law_413 : decode cL_law 413 = .ok (.iaload, 1) := by decide +kernel
theorem dL_law_414 : decode cL_law 414 = .ok (.aload_n 0, 1) := by decide +kernel
theorem dL_law_415 : decode cL_law 415 = .ok (.iload 4, 2) := by decide +kernel
theorem dL_law_417 : decode cL_law 417 = .ok (.iconst 2, 1) := by decide +kernel
theorem dL_law_418 : decode cL_law 418 = .ok (.iadd, 1) := by decide +kernel
theorem dL_law_419 : decode cL_law 419 = .ok (.iaload, 1) := by decide +kernel
theorem dL_law_420 : decode cL_law 420 = .ok (.invokevirtual 99, 3) := by decide +kernel
theorem dL_law_423 : decode cL_law 423 = .ok (.istore 6, 2) := by decide +kernel
theorem dL_law_425 : decode cL_law 425 = .ok (.aload_n 2, 1) := by decide +kernel
theorem dL_law_426 : decode cL_law 426 = .ok (.invokevirtual 82, 3) := by decide +kernel
theorem dL_law_429 : decode cL_law 429 = .ok (.iload 5, 2) := by decide +kernel
theorem dL_law_431 : decode cL_law 431 = .ok (.if_icmp .eq 5, 3) := by decide +kernel
theorem dL_law_434 : decode cL_law 434 = .ok (.iconst 0, 1) := by decide +kernel
theorem dL_law_435 : decode cL_law 435 = .ok (.ireturn, 1) := by decide +kernel
theorem dL_law_436 : decode cL_law 436 = .ok (.iload 5, 2) := by decide +kernel
theorem dL_law_438 : decode cL_law 438 = .ok (.ifCond .ne 15, 3) := by decide +kernel
theorem dL_law_441 : decode cL_law 441 = .ok (.aload_n 3, 1) := by decide +kernel
theorem dL_law_442 : decode cL_law 442 = .ok (.iconst 0, 1) := by decide +kernel
theorem dL_law_443 : decode cL_law 443 = .ok (.laload, 1) := by decide +kernel
theorem dL_law_444 : decode cL_law 444 = .ok (.iload 6, 2) := by decide +kernel
theorem dL_law_446 : decode cL_law 446 = .ok (.i2l, 1) := by decide +kernel
theorem dL_law_447 : decode cL_law 447 = .ok (.lcmp, 1) := by decide +kernel
theorem dL_law_448 : decode cL_law 448 = .ok (.ifCond .eq 5, 3) := by decide +kernel
theorem dL_law_451 : decode cL_law 451 = .ok (.iconst 0, 1) := by decide +kernel
theorem dL_law_452 : decode cL_law 452 = .ok (.ireturn, 1) := by decide +kernel
theorem dL_law_453 : decode cL_law 453 = .ok (.goto 808, 3) := by decide +kernel
theorem dL_law_456 : decode cL_law 456 = .ok (.aload_n 1, 1) := by decide +kernel
theorem dL_law_457 : decode cL_law 457 = .ok (.aload_n 0, 1) := by decide +kernel
theorem dL_law_458 : decode cL_law 458 = .ok (.iload 4, 2) := by decide +kernel
theorem dL_law_460 : decode cL_law 460 = .ok (.iconst 1, 1) := by decide +kernel
theorem dL_law_461 : decode cL_law 461 = .ok (.iadd, 1) := by decide +kernel
theorem dL_law_462 : decode cL_law 462 = .ok (.iaload, 1) := by decide +kernel
theorem dL_law_463 : decode cL_law 463 = .ok (.aload_n 3, 1) := by decide +kernel
theorem dL_law_464 : decode cL_law 464 = .ok (.invokestatic 100, 3) := by decide +kernel
theorem dL_law_467 : decode cL_law 467 = .ok (.istore 5, 2) := by decide +kernel
theorem dL_law_469 : decode cL_law 469 = .ok (.aload_n 2, 1) := by decide +kernel
theorem dL_law_470 : decode cL_law 470 = .ok (.aload_n 0, 1) := by decide +kernel
theorem dL_law_471 : decode cL_law 471 = .ok (.iload 4, 2) := by decide +kernel
theorem dL_law_473 : decode cL_law 473 = .ok (.iconst 1, 1) := by decide +kernel
theorem dL_law_474 : decode cL_law 474 = .ok (.iadd, 1) := by decide +kernel
theorem dL_law_475 : decode cL_law 475 = .ok (.iaload, 1) := by decide +kernel
theorem dL_law_476 : decode cL_law 476 = .ok (.invokevirtual 102, 3) := by decide +kernel
theorem dL_law_479 : decode cL_law 479 = .ok (.istore 6, 2) := by decide +kernel
theorem dL_law_481 : decode cL_law 481 = .ok (.aload_n 2, 1) := by decide +kernel
theorem dL_law_482 : decode cL_law 482 = .ok (.invokevirtual 82, 3) := by decide +kernel
theorem dL_law_485 : decode cL_law 485 = .ok (.iload 5, 2) := by decide +kernel
theorem dL_law_487 : decode cL_law 487 = .ok (.if_icmp .eq 5, 3) := by decide +kernel
theorem dL_law_490 : decode cL_law 490 = .ok (.iconst 0, 1) := by decide +kernel
theorem dL_law_491 : decode cL_law 491 = .ok (.ireturn, 1) := by decide +kernel
theorem dL_law_492 : decode cL_law 492 = .ok (.iload 5, 2) := by decide +kernel
theorem dL_law_494 : decode cL_law 494 = .ok (.ifCond .ne 15, 3) := by decide +kernel
theorem dL_law_497 : decode cL_law 497 = .ok (.aload_n 3, 1) := by decide +kernel
theorem dL_law_498 : decode cL_law 498 = .ok (.iconst 0, 1) := by decide +kernel
theorem dL_law_499 : decode cL_law 499 = .ok (.laload, 1) := by decide +kernel
theorem dL_law_500 : decode cL_law 500 = .ok (.iload 6, 2) := by decide +kernel
theorem dL_law_502 : decode cL_law 502 = .ok (.i2l, 1) := by decide +kernel
theorem dL_law_503 : decode cL_law 503 = .ok (.lcmp, 1) := by decide +kernel
theorem dL_law_504 : decode cL_law 504 = .ok (.ifCond .eq 5, 3) := by decide +kernel
theorem dL_law_507 : decode cL_law 507 = .ok (.iconst 0, 1) := by decide +kernel
theorem dL_law_508 : decode cL_law 508 = .ok (.ireturn, 1) := by decide +kernel
theorem dL_law_509 : decode cL_law 509 = .ok (.goto 752, 3) := by decide +kernel
theorem dL_law_512 : decode cL_law 512 = .ok (.aload_n 1, 1) := by decide +kernel
theorem dL_law_513 : decode cL_law 513 = .ok (.aload_n 0, 1) := by decide +kernel
theorem dL_law_514 : decode cL_law 514 = .ok (.iload 4, 2) := by decide +kernel
theorem dL_law_516 : decode cL_law 516 = .ok (.iconst 1, 1) := by decide +kernel
theorem dL_law_517 : decode cL_law 517 = .ok (.iadd, 1) := by decide +kernel
theorem dL_law_518 : decode cL_law 518 = .ok (.iaload, 1) := by decide +kernel
theorem dL_law_519 : decode cL_law 519 = .ok (.aload_n 0, 1) := by decide +kernel
theorem dL_law_520 : decode cL_law 520 = .ok (.iload 4, 2) := by decide +kernel
theorem dL_law_522 : decode cL_law 522 = .ok (.iconst 2, 1) := by decide +kernel
theorem dL_law_523 : decode cL_law 523 = .ok (.iadd, 1) := by decide +kernel
theorem dL_law_524 : decode cL_law 524 = .ok (.iaload, 1) := by decide +kernel
theorem dL_law_525 : decode cL_law 525 = .ok (.aload_n 0, 1) := by decide +kernel
theorem dL_law_526 : decode cL_law 526 = .ok (.iload 4, 2) := by decide +kernel
theorem dL_law_528 : decode cL_law 528 = .ok (.iconst 3, 1) := by decide +kernel
theorem dL_law_529 : decode cL_law 529 = .ok (.iadd, 1) := by decide +kernel
theorem dL_law_530 : decode cL_law 530 = .ok (.iaload, 1) := by decide +kernel
theorem dL_law_531 : decode cL_law 531 = .ok (.aload_n 3, 1) := by decide +kernel
theorem dL_law_532 : decode cL_law 532 = .ok (.invokestatic 103, 3) := by decide +kernel
theorem dL_law_535 : decode cL_law 535 = .ok (.istore 5, 2) := by decide +kernel
theorem dL_law_537 : decode cL_law 537 = .ok (.aload_n 2, 1) := by decide +kernel
theorem dL_law_538 : decode cL_law 538 = .ok (.aload_n 0, 1) := by decide +kernel
theorem dL_law_539 : decode cL_law 539 = .ok (.iload 4, 2) := by decide +kernel
theorem dL_law_541 : decode cL_law 541 = .ok (.iconst 1, 1) := by decide +kernel
theorem dL_law_542 : decode cL_law 542 = .ok (.iadd, 1) := by decide +kernel
theorem dL_law_543 : decode cL_law 543 = .ok (.iaload, 1) := by decide +kernel
theorem dL_law_544 : decode cL_law 544 = .ok (.aload_n 0, 1) := by decide +kernel
theorem dL_law_545 : decode cL_law 545 = .ok (.iload 4, 2) := by decide +kernel
theorem dL_law_547 : decode cL_law 547 = .ok (.iconst 2, 1) := by decide +kernel
theorem dL_law_548 : decode cL_law 548 = .ok (.iadd, 1) := by decide +kernel
theorem dL_law_549 : decode cL_law 549 = .ok (.iaload, 1) := by decide +kernel
theorem dL_law_550 : decode cL_law 550 = .ok (.aload_n 0, 1) := by decide +kernel
theorem dL_law_551 : decode cL_law 551 = .ok (.iload 4, 2) := by decide +kernel
theorem dL_law_553 : decode cL_law 553 = .ok (.iconst 3, 1) := by decide +kernel
theorem dL_law_554 : decode cL_law 554 = .ok (.iadd, 1) := by decide +kernel
theorem dL_law_555 : decode cL_law 555 = .ok (.iaload, 1) := by decide +kernel
theorem dL_law_556 : decode cL_law 556 = .ok (.invokevirtual 105, 3) := by decide +kernel
theorem dL_law_559 : decode cL_law 559 = .ok (.istore 6, 2) := by decide +kernel
theorem dL_law_561 : decode cL_law 561 = .ok (.aload_n 2, 1) := by decide +kernel
theorem dL_law_562 : decode cL_law 562 = .ok (.invokevirtual 82, 3) := by decide +kernel
theorem dL_law_565 : decode cL_law 565 = .ok (.iload 5, 2) := by decide +kernel
theorem dL_law_567 : decode cL_law 567 = .ok (.if_icmp .eq 5, 3) := by decide +kernel
theorem dL_law_570 : decode cL_law 570 = .ok (.iconst 0, 1) := by decide +kernel
theorem dL_law_571 : decode cL_law 571 = .ok (.ireturn, 1) := by decide +kernel
theorem dL_law_572 : decode cL_law 572 = .ok (.iload 5, 2) := by decide +kernel
theorem dL_law_574 : decode cL_law 574 = .ok (.ifCond .ne 15, 3) := by decide +kernel
theorem dL_law_577 : decode cL_law 577 = .ok (.aload_n 3, 1) := by decide +kernel
theorem dL_law_578 : decode cL_law 578 = .ok (.iconst 0, 1) := by decide +kernel
theorem dL_law_579 : decode cL_law 579 = .ok (.laload, 1) := by decide +kernel
theorem dL_law_580 : decode cL_law 580 = .ok (.iload 6, 2) := by decide +kernel
theorem dL_law_582 : decode cL_law 582 = .ok (.i2l, 1) := by decide +kernel
theorem dL_law_583 : decode cL_law 583 = .ok (.lcmp, 1) := by decide +kernel
theorem dL_law_584 : decode cL_law 584 = .ok (.ifCond .eq 5, 3) := by decide +kernel
theorem dL_law_587 : decode cL_law 587 = .ok (.iconst 0, 1) := by decide +kernel
theorem dL_law_588 : decode cL_law 588 = .ok (.ireturn, 1) := by decide +kernel
theorem dL_law_589 : decode cL_law 589 = .ok (.goto 672, 3) := by decide +kernel
theorem dL_law_592 : decode cL_law 592 = .ok (.aload_n 1, 1) := by decide +kernel
theorem dL_law_593 : decode cL_law 593 = .ok (.aload_n 0, 1) := by decide +kernel
theorem dL_law_594 : decode cL_law 594 = .ok (.iload 4, 2) := by decide +kernel
theorem dL_law_596 : decode cL_law 596 = .ok (.iconst 1, 1) := by decide +kernel
theorem dL_law_597 : decode cL_law 597 = .ok (.iadd, 1) := by decide +kernel
theorem dL_law_598 : decode cL_law 598 = .ok (.iaload, 1) := by decide +kernel
theorem dL_law_599 : decode cL_law 599 = .ok (.aload_n 3, 1) := by decide +kernel
theorem dL_law_600 : decode cL_law 600 = .ok (.invokestatic 106, 3) := by decide +kernel
theorem dL_law_603 : decode cL_law 603 = .ok (.istore 5, 2) := by decide +kernel
theorem dL_law_605 : decode cL_law 605 = .ok (.aload_n 2, 1) := by decide +kernel
theorem dL_law_606 : decode cL_law 606 = .ok (.aload_n 0, 1) := by decide +kernel
theorem dL_law_607 : decode cL_law 607 = .ok (.iload 4, 2) := by decide +kernel
theorem dL_law_609 : decode cL_law 609 = .ok (.iconst 1, 1) := by decide +kernel
theorem dL_law_610 : decode cL_law 610 = .ok (.iadd, 1) := by decide +kernel
theorem dL_law_611 : decode cL_law 611 = .ok (.iaload, 1) := by decide +kernel
theorem dL_law_612 : decode cL_law 612 = .ok (.invokevirtual 108, 3) := by decide +kernel
theorem dL_law_615 : decode cL_law 615 = .ok (.istore 6, 2) := by decide +kernel
theorem dL_law_617 : decode cL_law 617 = .ok (.aload_n 2, 1) := by decide +kernel
theorem dL_law_618 : decode cL_law 618 = .ok (.invokevirtual 82, 3) := by decide +kernel
theorem dL_law_621 : decode cL_law 621 = .ok (.iload 5, 2) := by decide +kernel
theorem dL_law_623 : decode cL_law 623 = .ok (.if_icmp .eq 5, 3) := by decide +kernel
theorem dL_law_626 : decode cL_law 626 = .ok (.iconst 0, 1) := by decide +kernel
theorem dL_law_627 : decode cL_law 627 = .ok (.ireturn, 1) := by decide +kernel
theorem dL_law_628 : decode cL_law 628 = .ok (.iload 5, 2) := by decide +kernel
theorem dL_law_630 : decode cL_law 630 = .ok (.ifCond .ne 15, 3) := by decide +kernel
theorem dL_law_633 : decode cL_law 633 = .ok (.aload_n 3, 1) := by decide +kernel
theorem dL_law_634 : decode cL_law 634 = .ok (.iconst 0, 1) := by decide +kernel
theorem dL_law_635 : decode cL_law 635 = .ok (.laload, 1) := by decide +kernel
theorem dL_law_636 : decode cL_law 636 = .ok (.iload 6, 2) := by decide +kernel
theorem dL_law_638 : decode cL_law 638 = .ok (.i2l, 1) := by decide +kernel
theorem dL_law_639 : decode cL_law 639 = .ok (.lcmp, 1) := by decide +kernel
theorem dL_law_640 : decode cL_law 640 = .ok (.ifCond .eq 5, 3) := by decide +kernel
theorem dL_law_643 : decode cL_law 643 = .ok (.iconst 0, 1) := by decide +kernel
theorem dL_law_644 : decode cL_law 644 = .ok (.ireturn, 1) := by decide +kernel
theorem dL_law_645 : decode cL_law 645 = .ok (.goto 616, 3) := by decide +kernel
theorem dL_law_648 : decode cL_law 648 = .ok (.aload_n 1, 1) := by decide +kernel
theorem dL_law_649 : decode cL_law 649 = .ok (.aload_n 0, 1) := by decide +kernel
theorem dL_law_650 : decode cL_law 650 = .ok (.iload 4, 2) := by decide +kernel
theorem dL_law_652 : decode cL_law 652 = .ok (.iconst 1, 1) := by decide +kernel
theorem dL_law_653 : decode cL_law 653 = .ok (.iadd, 1) := by decide +kernel
theorem dL_law_654 : decode cL_law 654 = .ok (.iaload, 1) := by decide +kernel
theorem dL_law_655 : decode cL_law 655 = .ok (.aload_n 0, 1) := by decide +kernel
theorem dL_law_656 : decode cL_law 656 = .ok (.iload 4, 2) := by decide +kernel
theorem dL_law_658 : decode cL_law 658 = .ok (.iconst 2, 1) := by decide +kernel
theorem dL_law_659 : decode cL_law 659 = .ok (.iadd, 1) := by decide +kernel
theorem dL_law_660 : decode cL_law 660 = .ok (.iaload, 1) := by decide +kernel
theorem dL_law_661 : decode cL_law 661 = .ok (.aload_n 3, 1) := by decide +kernel
theorem dL_law_662 : decode cL_law 662 = .ok (.invokestatic 109, 3) := by decide +kernel
theorem dL_law_665 : decode cL_law 665 = .ok (.istore 5, 2) := by decide +kernel
theorem dL_law_667 : decode cL_law 667 = .ok (.aload_n 2, 1) := by decide +kernel
theorem dL_law_668 : decode cL_law 668 = .ok (.aload_n 0, 1) := by decide +kernel
theorem dL_law_669 : decode cL_law 669 = .ok (.iload 4, 2) := by decide +kernel
theorem dL_law_671 : decode cL_law 671 = .ok (.iconst 1, 1) := by decide +kernel
theorem dL_law_672 : decode cL_law 672 = .ok (.iadd, 1) := by decide +kernel
theorem dL_law_673 : decode cL_law 673 = .ok (.iaload, 1) := by decide +kernel
theorem dL_law_674 : decode cL_law 674 = .ok (.aload_n 0, 1) := by decide +kernel
theorem dL_law_675 : decode cL_law 675 = .ok (.iload 4, 2) := by decide +kernel
theorem dL_law_677 : decode cL_law 677 = .ok (.iconst 2, 1) := by decide +kernel
theorem dL_law_678 : decode cL_law 678 = .ok (.iadd, 1) := by decide +kernel
theorem dL_law_679 : decode cL_law 679 = .ok (.iaload, 1) := by decide +kernel
theorem dL_law_680 : decode cL_law 680 = .ok (.invokevirtual 111, 3) := by decide +kernel
theorem dL_law_683 : decode cL_law 683 = .ok (.istore 6, 2) := by decide +kernel
theorem dL_law_685 : decode cL_law 685 = .ok (.aload_n 2, 1) := by decide +kernel
theorem dL_law_686 : decode cL_law 686 = .ok (.invokevirtual 82, 3) := by decide +kernel
theorem dL_law_689 : decode cL_law 689 = .ok (.iload 5, 2) := by decide +kernel
theorem dL_law_691 : decode cL_law 691 = .ok (.if_icmp .eq 5, 3) := by decide +kernel
theorem dL_law_694 : decode cL_law 694 = .ok (.iconst 0, 1) := by decide +kernel
theorem dL_law_695 : decode cL_law 695 = .ok (.ireturn, 1) := by decide +kernel
theorem dL_law_696 : decode cL_law 696 = .ok (.iload 5, 2) := by decide +kernel
theorem dL_law_698 : decode cL_law 698 = .ok (.ifCond .ne 15, 3) := by decide +kernel
theorem dL_law_701 : decode cL_law 701 = .ok (.aload_n 3, 1) := by decide +kernel
theorem dL_law_702 : decode cL_law 702 = .ok (.iconst 0, 1) := by decide +kernel
theorem dL_law_703 : decode cL_law 703 = .ok (.laload, 1) := by decide +kernel
theorem dL_law_704 : decode cL_law 704 = .ok (.iload 6, 2) := by decide +kernel
theorem dL_law_706 : decode cL_law 706 = .ok (.i2l, 1) := by decide +kernel
theorem dL_law_707 : decode cL_law 707 = .ok (.lcmp, 1) := by decide +kernel
theorem dL_law_708 : decode cL_law 708 = .ok (.ifCond .eq 5, 3) := by decide +kernel
theorem dL_law_711 : decode cL_law 711 = .ok (.iconst 0, 1) := by decide +kernel
theorem dL_law_712 : decode cL_law 712 = .ok (.ireturn, 1) := by decide +kernel
theorem dL_law_713 : decode cL_law 713 = .ok (.goto 548, 3) := by decide +kernel
theorem dL_law_716 : decode cL_law 716 = .ok (.aload_n 1, 1) := by decide +kernel
theorem dL_law_717 : decode cL_law 717 = .ok (.aload_n 0, 1) := by decide +kernel
theorem dL_law_718 : decode cL_law 718 = .ok (.iload 4, 2) := by decide +kernel
theorem dL_law_720 : decode cL_law 720 = .ok (.iconst 1, 1) := by decide +kernel
theorem dL_law_721 : decode cL_law 721 = .ok (.iadd, 1) := by decide +kernel
theorem dL_law_722 : decode cL_law 722 = .ok (.iaload, 1) := by decide +kernel
theorem dL_law_723 : decode cL_law 723 = .ok (.aload_n 3, 1) := by decide +kernel
theorem dL_law_724 : decode cL_law 724 = .ok (.invokestatic 112, 3) := by decide +kernel
theorem dL_law_727 : decode cL_law 727 = .ok (.istore 5, 2) := by decide +kernel
theorem dL_law_729 : decode cL_law 729 = .ok (.aload_n 2, 1) := by decide +kernel
theorem dL_law_730 : decode cL_law 730 = .ok (.aload_n 0, 1) := by decide +kernel
theorem dL_law_731 : decode cL_law 731 = .ok (.iload 4, 2) := by decide +kernel
theorem dL_law_733 : decode cL_law 733 = .ok (.iconst 1, 1) := by decide +kernel
theorem dL_law_734 : decode cL_law 734 = .ok (.iadd, 1) := by decide +kernel
theorem dL_law_735 : decode cL_law 735 = .ok (.iaload, 1) := by decide +kernel
theorem dL_law_736 : decode cL_law 736 = .ok (.invokevirtual 114, 3) := by decide +kernel
theorem dL_law_739 : decode cL_law 739 = .ok (.istore 6, 2) := by decide +kernel
theorem dL_law_741 : decode cL_law 741 = .ok (.aload_n 2, 1) := by decide +kernel
theorem dL_law_742 : decode cL_law 742 = .ok (.invokevirtual 82, 3) := by decide +kernel
theorem dL_law_745 : decode cL_law 745 = .ok (.iload 5, 2) := by decide +kernel
theorem dL_law_747 : decode cL_law 747 = .ok (.if_icmp .eq 5, 3) := by decide +kernel
theorem dL_law_750 : decode cL_law 750 = .ok (.iconst 0, 1) := by decide +kernel
theorem dL_law_751 : decode cL_law 751 = .ok (.ireturn, 1) := by decide +kernel
theorem dL_law_752 : decode cL_law 752 = .ok (.iload 5, 2) := by decide +kernel
theorem dL_law_754 : decode cL_law 754 = .ok (.ifCond .ne 15, 3) := by decide +kernel
theorem dL_law_757 : decode cL_law 757 = .ok (.aload_n 3, 1) := by decide +kernel
theorem dL_law_758 : decode cL_law 758 = .ok (.iconst 0, 1) := by decide +kernel
theorem dL_law_759 : decode cL_law 759 = .ok (.laload, 1) := by decide +kernel
theorem dL_law_760 : decode cL_law 760 = .ok (.iload 6, 2) := by decide +kernel
theorem dL_law_762 : decode cL_law 762 = .ok (.i2l, 1) := by decide +kernel
theorem dL_law_763 : decode cL_law 763 = .ok (.lcmp, 1) := by decide +kernel
theorem dL_law_764 : decode cL_law 764 = .ok (.ifCond .eq 5, 3) := by decide +kernel
theorem dL_law_767 : decode cL_law 767 = .ok (.iconst 0, 1) := by decide +kernel
theorem dL_law_768 : decode cL_law 768 = .ok (.ireturn, 1) := by decide +kernel
theorem dL_law_769 : decode cL_law 769 = .ok (.goto 492, 3) := by decide +kernel
theorem dL_law_772 : decode cL_law 772 = .ok (.aload_n 1, 1) := by decide +kernel
theorem dL_law_773 : decode cL_law 773 = .ok (.aload_n 0, 1) := by decide +kernel
theorem dL_law_774 : decode cL_law 774 = .ok (.iload 4, 2) := by decide +kernel
theorem dL_law_776 : decode cL_law 776 = .ok (.iconst 1, 1) := by decide +kernel
theorem dL_law_777 : decode cL_law 777 = .ok (.iadd, 1) := by decide +kernel
theorem dL_law_778 : decode cL_law 778 = .ok (.iaload, 1) := by decide +kernel
theorem dL_law_779 : decode cL_law 779 = .ok (.aload_n 3, 1) := by decide +kernel
theorem dL_law_780 : decode cL_law 780 = .ok (.invokestatic 115, 3) := by decide +kernel
theorem dL_law_783 : decode cL_law 783 = .ok (.istore 5, 2) := by decide +kernel
theorem dL_law_785 : decode cL_law 785 = .ok (.aload_n 2, 1) := by decide +kernel
theorem dL_law_786 : decode cL_law 786 = .ok (.aload_n 0, 1) := by decide +kernel
theorem dL_law_787 : decode cL_law 787 = .ok (.iload 4, 2) := by decide +kernel
theorem dL_law_789 : decode cL_law 789 = .ok (.iconst 1, 1) := by decide +kernel
theorem dL_law_790 : decode cL_law 790 = .ok (.iadd, 1) := by decide +kernel
theorem dL_law_791 : decode cL_law 791 = .ok (.iaload, 1) := by decide +kernel
theorem dL_law_792 : decode cL_law 792 = .ok (.invokevirtual 117, 3) := by decide +kernel
theorem dL_law_795 : decode cL_law 795 = .ok (.istore 6, 2) := by decide +kernel
theorem dL_law_797 : decode cL_law 797 = .ok (.aload_n 2, 1) := by decide +kernel
theorem dL_law_798 : decode cL_law 798 = .ok (.invokevirtual 82, 3) := by decide +kernel
theorem dL_law_801 : decode cL_law 801 = .ok (.iload 5, 2) := by decide +kernel
theorem dL_law_803 : decode cL_law 803 = .ok (.if_icmp .eq 5, 3) := by decide +kernel
theorem dL_law_806 : decode cL_law 806 = .ok (.iconst 0, 1) := by decide +kernel
theorem dL_law_807 : decode cL_law 807 = .ok (.ireturn, 1) := by decide +kernel
theorem dL_law_808 : decode cL_law 808 = .ok (.iload 5, 2) := by decide +kernel
theorem dL_law_810 : decode cL_law 810 = .ok (.ifCond .ne 15, 3) := by decide +kernel
theorem dL_law_813 : decode cL_law 813 = .ok (.aload_n 3, 1) := by decide +kernel
theorem dL_law_814 : decode cL_law 814 = .ok (.iconst 0, 1) := by decide +kernel
theorem dL_law_815 : decode cL_law 815 = .ok (.laload, 1) := by decide +kernel
theorem dL_law_816 : decode cL_law 816 = .ok (.iload 6, 2) := by decide +kernel
theorem dL_law_818 : decode cL_law 818 = .ok (.i2l, 1) := by decide +kernel
theorem dL_law_819 : decode cL_law 819 = .ok (.lcmp, 1) := by decide +kernel
theorem dL_law_820 : decode cL_law 820 = .ok (.ifCond .eq 5, 3) := by decide +kernel
theorem dL_law_823 : decode cL_law 823 = .ok (.iconst 0, 1) := by decide +kernel
theorem dL_law_824 : decode cL_law 824 = .ok (.ireturn, 1) := by decide +kernel
theorem dL_law_825 : decode cL_law 825 = .ok (.goto 436, 3) := by decide +kernel
theorem dL_law_828 : decode cL_law 828 = .ok (.aload_n 1, 1) := by decide +kernel
theorem dL_law_829 : decode cL_law 829 = .ok (.aload_n 0, 1) := by decide +kernel
theorem dL_law_830 : decode cL_law 830 = .ok (.iload 4, 2) := by decide +kernel
theorem dL_law_832 : decode cL_law 832 = .ok (.iconst 1, 1) := by decide +kernel
theorem dL_law_833 : decode cL_law 833 = .ok (.iadd, 1) := by decide +kernel
theorem dL_law_834 : decode cL_law 834 = .ok (.iaload, 1) := by decide +kernel
theorem dL_law_835 : decode cL_law 835 = .ok (.aload_n 0, 1) := by decide +kernel
theorem dL_law_836 : decode cL_law 836 = .ok (.iload 4, 2) := by decide +kernel
theorem dL_law_838 : decode cL_law 838 = .ok (.iconst 2, 1) := by decide +kernel
theorem dL_law_839 : decode cL_law 839 = .ok (.iadd, 1) := by decide +kernel
theorem dL_law_840 : decode cL_law 840 = .ok (.iaload, 1) := by decide +kernel
theorem dL_law_841 : decode cL_law 841 = .ok (.aload_n 3, 1) := by decide +kernel
theorem dL_law_842 : decode cL_law 842 = .ok (.invokestatic 118, 3) := by decide +kernel
theorem dL_law_845 : decode cL_law 845 = .ok (.istore 5, 2) := by decide +kernel
theorem dL_law_847 : decode cL_law 847 = .ok (.aload_n 2, 1) := by decide +kernel
theorem dL_law_848 : decode cL_law 848 = .ok (.aload_n 0, 1) := by decide +kernel
theorem dL_law_849 : decode cL_law 849 = .ok (.iload 4, 2) := by decide +kernel
theorem dL_law_851 : decode cL_law 851 = .ok (.iconst 1, 1) := by decide +kernel
theorem dL_law_852 : decode cL_law 852 = .ok (.iadd, 1) := by decide +kernel
theorem dL_law_853 : decode cL_law 853 = .ok (.iaload, 1) := by decide +kernel
theorem dL_law_854 : decode cL_law 854 = .ok (.aload_n 0, 1) := by decide +kernel
theorem dL_law_855 : decode cL_law 855 = .ok (.iload 4, 2) := by decide +kernel
theorem dL_law_857 : decode cL_law 857 = .ok (.iconst 2, 1) := by decide +kernel
theorem dL_law_858 : decode cL_law 858 = .ok (.iadd, 1) := by decide +kernel
theorem dL_law_859 : decode cL_law 859 = .ok (.iaload, 1) := by decide +kernel
theorem dL_law_860 : decode cL_law 860 = .ok (.invokevirtual 120, 3) := by decide +kernel
theorem dL_law_863 : decode cL_law 863 = .ok (.istore 6, 2) := by decide +kernel
theorem dL_law_865 : decode cL_law 865 = .ok (.aload_n 2, 1) := by decide +kernel
theorem dL_law_866 : decode cL_law 866 = .ok (.invokevirtual 82, 3) := by decide +kernel
theorem dL_law_869 : decode cL_law 869 = .ok (.iload 5, 2) := by decide +kernel
theorem dL_law_871 : decode cL_law 871 = .ok (.if_icmp .eq 5, 3) := by decide +kernel
theorem dL_law_874 : decode cL_law 874 = .ok (.iconst 0, 1) := by decide +kernel
theorem dL_law_875 : decode cL_law 875 = .ok (.ireturn, 1) := by decide +kernel
theorem dL_law_876 : decode cL_law 876 = .ok (.iload 5, 2) := by decide +kernel
theorem dL_law_878 : decode cL_law 878 = .ok (.ifCond .ne 15, 3) := by decide +kernel
theorem dL_law_881 : decode cL_law 881 = .ok (.aload_n 3, 1) := by decide +kernel
theorem dL_law_882 : decode cL_law 882 = .ok (.iconst 0, 1) := by decide +kernel
theorem dL_law_883 : decode cL_law 883 = .ok (.laload, 1) := by decide +kernel
theorem dL_law_884 : decode cL_law 884 = .ok (.iload 6, 2) := by decide +kernel
theorem dL_law_886 : decode cL_law 886 = .ok (.i2l, 1) := by decide +kernel
theorem dL_law_887 : decode cL_law 887 = .ok (.lcmp, 1) := by decide +kernel
theorem dL_law_888 : decode cL_law 888 = .ok (.ifCond .eq 5, 3) := by decide +kernel
theorem dL_law_891 : decode cL_law 891 = .ok (.iconst 0, 1) := by decide +kernel
theorem dL_law_892 : decode cL_law 892 = .ok (.ireturn, 1) := by decide +kernel
theorem dL_law_893 : decode cL_law 893 = .ok (.goto 368, 3) := by decide +kernel
theorem dL_law_896 : decode cL_law 896 = .ok (.aload_n 1, 1) := by decide +kernel
theorem dL_law_897 : decode cL_law 897 = .ok (.aload_n 0, 1) := by decide +kernel
theorem dL_law_898 : decode cL_law 898 = .ok (.iload 4, 2) := by decide +kernel
theorem dL_law_900 : decode cL_law 900 = .ok (.iconst 1, 1) := by decide +kernel
theorem dL_law_901 : decode cL_law 901 = .ok (.iadd, 1) := by decide +kernel
theorem dL_law_902 : decode cL_law 902 = .ok (.iaload, 1) := by decide +kernel
theorem dL_law_903 : decode cL_law 903 = .ok (.aload_n 0, 1) := by decide +kernel
theorem dL_law_904 : decode cL_law 904 = .ok (.iload 4, 2) := by decide +kernel
theorem dL_law_906 : decode cL_law 906 = .ok (.iconst 2, 1) := by decide +kernel
theorem dL_law_907 : decode cL_law 907 = .ok (.iadd, 1) := by decide +kernel
theorem dL_law_908 : decode cL_law 908 = .ok (.iaload, 1) := by decide +kernel
theorem dL_law_909 : decode cL_law 909 = .ok (.ifCond .eq 7, 3) := by decide +kernel
theorem dL_law_912 : decode cL_law 912 = .ok (.iconst 1, 1) := by decide +kernel
theorem dL_law_913 : decode cL_law 913 = .ok (.goto 4, 3) := by decide +kernel
theorem dL_law_916 : decode cL_law 916 = .ok (.iconst 0, 1) := by decide +kernel
theorem dL_law_917 : decode cL_law 917 = .ok (.aload_n 3, 1) := by decide +kernel
theorem dL_law_918 : decode cL_law 918 = .ok (.invokestatic 121, 3) := by decide +kernel
theorem dL_law_921 : decode cL_law 921 = .ok (.istore 5, 2) := by decide +kernel
theorem dL_law_923 : decode cL_law 923 = .ok (.aload_n 2, 1) := by decide +kernel
theorem dL_law_924 : decode cL_law 924 = .ok (.aload_n 0, 1) := by decide +kernel
theorem dL_law_925 : decode cL_law 925 = .ok (.iload 4, 2) := by decide +kernel
theorem dL_law_927 : decode cL_law 927 = .ok (.iconst 1, 1) := by decide +kernel
theorem dL_law_928 : decode cL_law 928 = .ok (.iadd, 1) := by decide +kernel
theorem dL_law_929 : decode cL_law 929 = .ok (.iaload, 1) := by decide +kernel
theorem dL_law_930 : decode cL_law 930 = .ok (.aload_n 0, 1) := by decide +kernel
theorem dL_law_931 : decode cL_law 931 = .ok (.iload 4, 2) := by decide +kernel
theorem dL_law_933 : decode cL_law 933 = .ok (.iconst 2, 1) := by decide +kernel
theorem dL_law_934 : decode cL_law 934 = .ok (.iadd, 1) := by decide +kernel
theorem dL_law_935 : decode cL_law 935 = .ok (.iaload, 1) := by decide +kernel
theorem dL_law_936 : decode cL_law 936 = .ok (.ifCond .eq 7, 3) := by decide +kernel
theorem dL_law_939 : decode cL_law 939 = .ok (.iconst 1, 1) := by decide +kernel
theorem dL_law_940 : decode cL_law 940 = .ok (.goto 4, 3) := by decide +kernel
theorem dL_law_943 : decode cL_law 943 = .ok (.iconst 0, 1) := by decide +kernel
theorem dL_law_944 : decode cL_law 944 = .ok (.invokevirtual 124, 3) := by decide +kernel
theorem dL_law_947 : decode cL_law 947 = .ok (.istore 6, 2) := by decide +kernel
theorem dL_law_949 : decode cL_law 949 = .ok (.aload_n 2, 1) := by decide +kernel
theorem dL_law_950 : decode cL_law 950 = .ok (.invokevirtual 82, 3) := by decide +kernel
theorem dL_law_953 : decode cL_law 953 = .ok (.iload 5, 2) := by decide +kernel
theorem dL_law_955 : decode cL_law 955 = .ok (.if_icmp .eq 5, 3) := by decide +kernel
theorem dL_law_958 : decode cL_law 958 = .ok (.iconst 0, 1) := by decide +kernel
theorem dL_law_959 : decode cL_law 959 = .ok (.ireturn, 1) := by decide +kernel
theorem dL_law_960 : decode cL_law 960 = .ok (.iload 5, 2) := by decide +kernel
theorem dL_law_962 : decode cL_law 962 = .ok (.ifCond .ne 15, 3) := by decide +kernel
theorem dL_law_965 : decode cL_law 965 = .ok (.aload_n 3, 1) := by decide +kernel
theorem dL_law_966 : decode cL_law 966 = .ok (.iconst 0, 1) := by decide +kernel
theorem dL_law_967 : decode cL_law 967 = .ok (.laload, 1) := by decide +kernel
theorem dL_law_968 : decode cL_law 968 = .ok (.iload 6, 2) := by decide +kernel
theorem dL_law_970 : decode cL_law 970 = .ok (.i2l, 1) := by decide +kernel
theorem dL_law_971 : decode cL_law 971 = .ok (.lcmp, 1) := by decide +kernel
theorem dL_law_972 : decode cL_law 972 = .ok (.ifCond .eq 5, 3) := by decide +kernel
theorem dL_law_975 : decode cL_law 975 = .ok (.iconst 0, 1) := by decide +kernel
theorem dL_law_976 : decode cL_law 976 = .ok (.ireturn, 1) := by decide +kernel
theorem dL_law_977 : decode cL_law 977 = .ok (.goto 284, 3) := by decide +kernel
theorem dL_law_980 : decode cL_law 980 = .ok (.aload_n 1, 1) := by decide +kernel
theorem dL_law_981 : decode cL_law 981 = .ok (.aload_n 0, 1) := by decide +kernel
theorem dL_law_982 : decode cL_law 982 = .ok (.iload 4, 2) := by decide +kernel
theorem dL_law_984 : decode cL_law 984 = .ok (.iconst 1, 1) := by decide +kernel
theorem dL_law_985 : decode cL_law 985 = .ok (.iadd, 1) := by decide +kernel
theorem dL_law_986 : decode cL_law 986 = .ok (.iaload, 1) := by decide +kernel
theorem dL_law_987 : decode cL_law 987 = .ok (.aload_n 3, 1) := by decide +kernel
theorem dL_law_988 : decode cL_law 988 = .ok (.invokestatic 125, 3) := by decide +kernel
theorem dL_law_991 : decode cL_law 991 = .ok (.istore 5, 2) := by decide +kernel
theorem dL_law_993 : decode cL_law 993 = .ok (.aload_n 2, 1) := by decide +kernel
theorem dL_law_994 : decode cL_law 994 = .ok (.aload_n 0, 1) := by decide +kernel
theorem dL_law_995 : decode cL_law 995 = .ok (.iload 4, 2) := by decide +kernel
theorem dL_law_997 : decode cL_law 997 = .ok (.iconst 1, 1) := by decide +kernel
theorem dL_law_998 : decode cL_law 998 = .ok (.iadd, 1) := by decide +kernel
theorem dL_law_999 : decode cL_law 999 = .ok (.iaload, 1) := by decide +kernel
theorem dL_law_1000 : decode cL_law 1000 = .ok (.invokevirtual 127, 3) := by decide +kernel
theorem dL_law_1003 : decode cL_law 1003 = .ok (.istore 6, 2) := by decide +kernel
theorem dL_law_1005 : decode cL_law 1005 = .ok (.aload_n 2, 1) := by decide +kernel
theorem dL_law_1006 : decode cL_law 1006 = .ok (.invokevirtual 82, 3) := by decide +kernel
theorem dL_law_1009 : decode cL_law 1009 = .ok (.iload 5, 2) := by decide +kernel
theorem dL_law_1011 : decode cL_law 1011 = .ok (.if_icmp .eq 5, 3) := by decide +kernel
theorem dL_law_1014 : decode cL_law 1014 = .ok (.iconst 0, 1) := by decide +kernel
theorem dL_law_1015 : decode cL_law 1015 = .ok (.ireturn, 1) := by decide +kernel
theorem dL_law_1016 : decode cL_law 1016 = .ok (.iload 5, 2) := by decide +kernel
theorem dL_law_1018 : decode cL_law 1018 = .ok (.ifCond .ne 15, 3) := by decide +kernel
theorem dL_law_1021 : decode cL_law 1021 = .ok (.aload_n 3, 1) := by decide +kernel
theorem dL_law_1022 : decode cL_law 1022 = .ok (.iconst 0, 1) := by decide +kernel
theorem dL_law_1023 : decode cL_law 1023 = .ok (.laload, 1) := by decide +kernel
theorem dL_law_1024 : decode cL_law 1024 = .ok (.iload 6, 2) := by decide +kernel
theorem dL_law_1026 : decode cL_law 1026 = .ok (.i2l, 1) := by decide +kernel
theorem dL_law_1027 : decode cL_law 1027 = .ok (.lcmp, 1) := by decide +kernel
theorem dL_law_1028 : decode cL_law 1028 = .ok (.ifCond .eq 5, 3) := by decide +kernel
theorem dL_law_1031 : decode cL_law 1031 = .ok (.iconst 0, 1) := by decide +kernel
theorem dL_law_1032 : decode cL_law 1032 = .ok (.ireturn, 1) := by decide +kernel
theorem dL_law_1033 : decode cL_law 1033 = .ok (.goto 228, 3) := by decide +kernel
theorem dL_law_1036 : decode cL_law 1036 = .ok (.aload_n 1, 1) := by decide +kernel
theorem dL_law_1037 : decode cL_law 1037 = .ok (.invokevirtual 128, 3) := by decide +kernel
theorem dL_law_1040 : decode cL_law 1040 = .ok (.aload_n 2, 1) := by decide +kernel
theorem dL_law_1041 : decode cL_law 1041 = .ok (.invokevirtual 131, 3) := by decide +kernel
theorem dL_law_1044 : decode cL_law 1044 = .ok (.if_icmp .eq 217, 3) := by decide +kernel
theorem dL_law_1047 : decode cL_law 1047 = .ok (.iconst 0, 1) := by decide +kernel
theorem dL_law_1048 : decode cL_law 1048 = .ok (.ireturn, 1) := by decide +kernel
theorem dL_law_1049 : decode cL_law 1049 = .ok (.aload_n 1, 1) := by decide +kernel
theorem dL_law_1050 : decode cL_law 1050 = .ok (.invokevirtual 132, 3) := by decide +kernel
theorem dL_law_1053 : decode cL_law 1053 = .ok (.aload_n 2, 1) := by decide +kernel
theorem dL_law_1054 : decode cL_law 1054 = .ok (.invokevirtual 135, 3) := by decide +kernel
theorem dL_law_1057 : decode cL_law 1057 = .ok (.if_icmp .eq 204, 3) := by decide +kernel
theorem dL_law_1060 : decode cL_law 1060 = .ok (.iconst 0, 1) := by decide +kernel
theorem dL_law_1061 : decode cL_law 1061 = .ok (.ireturn, 1) := by decide +kernel
theorem dL_law_1062 : decode cL_law 1062 = .ok (.aload_n 1, 1) := by decide +kernel
theorem dL_law_1063 : decode cL_law 1063 = .ok (.aload_n 0, 1) := by decide +kernel
theorem dL_law_1064 : decode cL_law 1064 = .ok (.iload 4, 2) := by decide +kernel
theorem dL_law_1066 : decode cL_law 1066 = .ok (.iconst 1, 1) := by decide +kernel
theorem dL_law_1067 : decode cL_law 1067 = .ok (.iadd, 1) := by decide +kernel
theorem dL_law_1068 : decode cL_law 1068 = .ok (.iaload, 1) := by decide +kernel
theorem dL_law_1069 : decode cL_law 1069 = .ok (.aload_n 0, 1) := by decide +kernel
theorem dL_law_1070 : decode cL_law 1070 = .ok (.iload 4, 2) := by decide +kernel
theorem dL_law_1072 : decode cL_law 1072 = .ok (.iconst 2, 1) := by decide +kernel
theorem dL_law_1073 : decode cL_law 1073 = .ok (.iadd, 1) := by decide +kernel
theorem dL_law_1074 : decode cL_law 1074 = .ok (.iaload, 1) := by decide +kernel
theorem dL_law_1075 : decode cL_law 1075 = .ok (.aload_n 3, 1) := by decide +kernel
theorem dL_law_1076 : decode cL_law 1076 = .ok (.invokestatic 136, 3) := by decide +kernel
theorem dL_law_1079 : decode cL_law 1079 = .ok (.istore 5, 2) := by decide +kernel
theorem dL_law_1081 : decode cL_law 1081 = .ok (.aload_n 2, 1) := by decide +kernel
theorem dL_law_1082 : decode cL_law 1082 = .ok (.aload_n 0, 1) := by decide +kernel
theorem dL_law_1083 : decode cL_law 1083 = .ok (.iload 4, 2) := by decide +kernel
theorem dL_law_1085 : decode cL_law 1085 = .ok (.iconst 1, 1) := by decide +kernel
theorem dL_law_1086 : decode cL_law 1086 = .ok (.iadd, 1) := by decide +kernel
theorem dL_law_1087 : decode cL_law 1087 = .ok (.iaload, 1) := by decide +kernel
theorem dL_law_1088 : decode cL_law 1088 = .ok (.aload_n 0, 1) := by decide +kernel
theorem dL_law_1089 : decode cL_law 1089 = .ok (.iload 4, 2) := by decide +kernel
theorem dL_law_1091 : decode cL_law 1091 = .ok (.iconst 2, 1) := by decide +kernel
theorem dL_law_1092 : decode cL_law 1092 = .ok (.iadd, 1) := by decide +kernel
theorem dL_law_1093 : decode cL_law 1093 = .ok (.iaload, 1) := by decide +kernel
theorem dL_law_1094 : decode cL_law 1094 = .ok (.invokevirtual 138, 3) := by decide +kernel
theorem dL_law_1097 : decode cL_law 1097 = .ok (.istore 6, 2) := by decide +kernel
theorem dL_law_1099 : decode cL_law 1099 = .ok (.aload_n 2, 1) := by decide +kernel
theorem dL_law_1100 : decode cL_law 1100 = .ok (.invokevirtual 82, 3) := by decide +kernel
theorem dL_law_1103 : decode cL_law 1103 = .ok (.iload 5, 2) := by decide +kernel
theorem dL_law_1105 : decode cL_law 1105 = .ok (.if_icmp .eq 5, 3) := by decide +kernel
theorem dL_law_1108 : decode cL_law 1108 = .ok (.iconst 0, 1) := by decide +kernel
theorem dL_law_1109 : decode cL_law 1109 = .ok (.ireturn, 1) := by decide +kernel
theorem dL_law_1110 : decode cL_law 1110 = .ok (.iload 5, 2) := by decide +kernel
theorem dL_law_1112 : decode cL_law 1112 = .ok (.ifCond .ne 15, 3) := by decide +kernel
theorem dL_law_1115 : decode cL_law 1115 = .ok (.aload_n 3, 1) := by decide +kernel
theorem dL_law_1116 : decode cL_law 1116 = .ok (.iconst 0, 1) := by decide +kernel
theorem dL_law_1117 : decode cL_law 1117 = .ok (.laload, 1) := by decide +kernel
theorem dL_law_1118 : decode cL_law 1118 = .ok (.iload 6, 2) := by decide +kernel
theorem dL_law_1120 : decode cL_law 1120 = .ok (.i2l, 1) := by decide +kernel
theorem dL_law_1121 : decode cL_law 1121 = .ok (.lcmp, 1) := by decide +kernel
theorem dL_law_1122 : decode cL_law 1122 = .ok (.ifCond .eq 5, 3) := by decide +kernel
theorem dL_law_1125 : decode cL_law 1125 = .ok (.iconst 0, 1) := by decide +kernel
theorem dL_law_1126 : decode cL_law 1126 = .ok (.ireturn, 1) := by decide +kernel
theorem dL_law_1127 : decode cL_law 1127 = .ok (.goto 134, 3) := by decide +kernel
theorem dL_law_1130 : decode cL_law 1130 = .ok (.aload_n 1, 1) := by decide +kernel
theorem dL_law_1131 : decode cL_law 1131 = .ok (.aload_n 0, 1) := by decide +kernel
theorem dL_law_1132 : decode cL_law 1132 = .ok (.iload 4, 2) := by decide +kernel
theorem dL_law_1134 : decode cL_law 1134 = .ok (.iconst 1, 1) := by decide +kernel
theorem dL_law_1135 : decode cL_law 1135 = .ok (.iadd, 1) := by decide +kernel
theorem dL_law_1136 : decode cL_law 1136 = .ok (.iaload, 1) := by decide +kernel
theorem dL_law_1137 : decode cL_law 1137 = .ok (.aload_n 0, 1) := by decide +kernel
theorem dL_law_1138 : decode cL_law 1138 = .ok (.iload 4, 2) := by decide +kernel
theorem dL_law_1140 : decode cL_law 1140 = .ok (.iconst 2, 1) := by decide +kernel
theorem dL_law_1141 : decode cL_law 1141 = .ok (.iadd, 1) := by decide +kernel
theorem dL_law_1142 : decode cL_law 1142 = .ok (.iaload, 1) := by decide +kernel
theorem dL_law_1143 : decode cL_law 1143 = .ok (.aload_n 3, 1) := by decide +kernel
theorem dL_law_1144 : decode cL_law 1144 = .ok (.invokestatic 139, 3) := by decide +kernel
theorem dL_law_1147 : decode cL_law 1147 = .ok (.istore 5, 2) := by decide +kernel
theorem dL_law_1149 : decode cL_law 1149 = .ok (.aload_n 2, 1) := by decide +kernel
theorem dL_law_1150 : decode cL_law 1150 = .ok (.aload_n 0, 1) := by decide +kernel
theorem dL_law_1151 : decode cL_law 1151 = .ok (.iload 4, 2) := by decide +kernel
theorem dL_law_1153 : decode cL_law 1153 = .ok (.iconst 1, 1) := by decide +kernel
theorem dL_law_1154 : decode cL_law 1154 = .ok (.iadd, 1) := by decide +kernel
theorem dL_law_1155 : decode cL_law 1155 = .ok (.iaload, 1) := by decide +kernel
theorem dL_law_1156 : decode cL_law 1156 = .ok (.aload_n 0, 1) := by decide +kernel
theorem dL_law_1157 : decode cL_law 1157 = .ok (.iload 4, 2) := by decide +kernel
theorem dL_law_1159 : decode cL_law 1159 = .ok (.iconst 2, 1) := by decide +kernel
theorem dL_law_1160 : decode cL_law 1160 = .ok (.iadd, 1) := by decide +kernel
theorem dL_law_1161 : decode cL_law 1161 = .ok (.iaload, 1) := by decide +kernel
theorem dL_law_1162 : decode cL_law 1162 = .ok (.invokevirtual 141, 3) := by decide +kernel
theorem dL_law_1165 : decode cL_law 1165 = .ok (.istore 6, 2) := by decide +kernel
theorem dL_law_1167 : decode cL_law 1167 = .ok (.aload_n 2, 1) := by decide +kernel
theorem dL_law_1168 : decode cL_law 1168 = .ok (.invokevirtual 82, 3) := by decide +kernel
theorem dL_law_1171 : decode cL_law 1171 = .ok (.iload 5, 2) := by decide +kernel
theorem dL_law_1173 : decode cL_law 1173 = .ok (.if_icmp .eq 5, 3) := by decide +kernel
theorem dL_law_1176 : decode cL_law 1176 = .ok (.iconst 0, 1) := by decide +kernel
theorem dL_law_1177 : decode cL_law 1177 = .ok (.ireturn, 1) := by decide +kernel
theorem dL_law_1178 : decode cL_law 1178 = .ok (.iload 5, 2) := by decide +kernel
theorem dL_law_1180 : decode cL_law 1180 = .ok (.ifCond .ne 22, 3) := by decide +kernel
theorem dL_law_1183 : decode cL_law 1183 = .ok (.aload_n 3, 1) := by decide +kernel
theorem dL_law_1184 : decode cL_law 1184 = .ok (.iconst 0, 1) := by decide +kernel
theorem dL_law_1185 : decode cL_law 1185 = .ok (.laload, 1) := by decide +kernel
theorem dL_law_1186 : decode cL_law 1186 = .ok (.iload 6, 2) := by decide +kernel
theorem dL_law_1188 : decode cL_law 1188 = .ok (.ifCond .eq 7, 3) := by decide +kernel
theorem dL_law_1191 : decode cL_law 1191 = .ok (.lconst 1, 1) := by decide +kernel
theorem dL_law_1192 : decode cL_law 1192 = .ok (.goto 4, 3) := by decide +kernel
theorem dL_law_1195 : decode cL_law 1195 = .ok (.lconst 0, 1) := by decide +kernel
theorem dL_law_1196 : decode cL_law 1196 = .ok (.lcmp, 1) := by decide +kernel
theorem dL_law_1197 : decode cL_law 1197 = .ok (.ifCond .eq 5, 3) := by decide +kernel
theorem dL_law_1200 : decode cL_law 1200 = .ok (.iconst 0, 1) := by decide +kernel
theorem dL_law_1201 : decode cL_law 1201 = .ok (.ireturn, 1) := by decide +kernel
theorem dL_law_1202 : decode cL_law 1202 = .ok (.goto 59, 3) := by decide +kernel
theorem dL_law_1205 : decode cL_law 1205 = .ok (.aload_n 1, 1) := by decide +kernel
theorem dL_law_1206 : decode cL_law 1206 = .ok (.aload_n 0, 1) := by decide +kernel
theorem dL_law_1207 : decode cL_law 1207 = .ok (.iload 4, 2) := by decide +kernel
theorem dL_law_1209 : decode cL_law 1209 = .ok (.iconst 1, 1) := by decide +kernel
theorem dL_law_1210 : decode cL_law 1210 = .ok (.iadd, 1) := by decide +kernel
theorem dL_law_1211 : decode cL_law 1211 = .ok (.iaload, 1) := by decide +kernel
theorem dL_law_1212 : decode cL_law 1212 = .ok (.aload_n 3, 1) := by decide +kernel
theorem dL_law_1213 : decode cL_law 1213 = .ok (.invokestatic 142, 3) := by decide +kernel
theorem dL_law_1216 : decode cL_law 1216 = .ok (.istore 5, 2) := by decide +kernel
theorem dL_law_1218 : decode cL_law 1218 = .ok (.aload_n 2, 1) := by decide +kernel
theorem dL_law_1219 : decode cL_law 1219 = .ok (.aload_n 0, 1) := by decide +kernel
theorem dL_law_1220 : decode cL_law 1220 = .ok (.iload 4, 2) := by decide +kernel
theorem dL_law_1222 : decode cL_law 1222 = .ok (.iconst 1, 1) := by decide +kernel
theorem dL_law_1223 : decode cL_law 1223 = .ok (.iadd, 1) := by decide +kernel
theorem dL_law_1224 : decode cL_law 1224 = .ok (.iaload, 1) := by decide +kernel
theorem dL_law_1225 : decode cL_law 1225 = .ok (.invokevirtual 144, 3) := by decide +kernel
theorem dL_law_1228 : decode cL_law 1228 = .ok (.istore 6, 2) := by decide +kernel
theorem dL_law_1230 : decode cL_law 1230 = .ok (.aload_n 2, 1) := by decide +kernel
theorem dL_law_1231 : decode cL_law 1231 = .ok (.invokevirtual 82, 3) := by decide +kernel
theorem dL_law_1234 : decode cL_law 1234 = .ok (.iload 5, 2) := by decide +kernel
theorem dL_law_1236 : decode cL_law 1236 = .ok (.if_icmp .eq 5, 3) := by decide +kernel
theorem dL_law_1239 : decode cL_law 1239 = .ok (.iconst 0, 1) := by decide +kernel
theorem dL_law_1240 : decode cL_law 1240 = .ok (.ireturn, 1) := by decide +kernel
theorem dL_law_1241 : decode cL_law 1241 = .ok (.iload 5, 2) := by decide +kernel
theorem dL_law_1243 : decode cL_law 1243 = .ok (.ifCond .ne 15, 3) := by decide +kernel
theorem dL_law_1246 : decode cL_law 1246 = .ok (.aload_n 3, 1) := by decide +kernel
theorem dL_law_1247 : decode cL_law 1247 = .ok (.iconst 0, 1) := by decide +kernel
theorem dL_law_1248 : decode cL_law 1248 = .ok (.laload, 1) := by decide +kernel
theorem dL_law_1249 : decode cL_law 1249 = .ok (.iload 6, 2) := by decide +kernel
theorem dL_law_1251 : decode cL_law 1251 = .ok (.i2l, 1) := by decide +kernel
theorem dL_law_1252 : decode cL_law 1252 = .ok (.lcmp, 1) := by decide +kernel
theorem dL_law_1253 : decode cL_law 1253 = .ok (.ifCond .eq 5, 3) := by decide +kernel
theorem dL_law_1256 : decode cL_law 1256 = .ok (.iconst 0, 1) := by decide +kernel
theorem dL_law_1257 : decode cL_law 1257 = .ok (.ireturn, 1) := by decide +kernel
theorem dL_law_1258 : decode cL_law 1258 = .ok (.goto 3, 3) := by decide +kernel
theorem dL_law_1261 : decode cL_law 1261 = .ok (.iinc 4 4, 3) := by decide +kernel
theorem dL_law_1264 : decode cL_law 1264 = .ok (.goto (-1241), 3) := by decide +kernel
theorem dL_law_1267 : decode cL_law 1267 = .ok (.iconst 1, 1) := by decide +kernel
theorem dL_law_1268 : decode cL_law 1268 = .ok (.ireturn, 1) := by decide +kernel
abbrev vwCl : List vw_C := [(RX0, TX0, 11), (RX1, TX1, 4), (RX2, TX2, 6), (RX3, TX3, 18)]
end
section
/-! THE BASE: what every contract of the class's and the reference's methods speaks in -/
abbrev gT (T : Nat → ClassId) : List (ClassId × FieldType) := [(T 0, .int), (T 1, .boolean), (T 2, .object RX0), (T 3, .object RX1), (T 4, .long)]
/-- words that the tables alone decide but that aren't among a method's own -/
def gEw : List Cond := [
  .methodLinkNest RX2 25 yX0_init RX2, .fieldLinkNest RX2 36 "NameAuction$Name" "phase" "I" RX2, .fieldLinkNest RX2 74 "NameAuction$Name" "holder" "I" RX2,
  .fieldLinkNest RX2 60 "NameAuction$Name" "closing" "I" RX2, .fieldLinkNest RX2 67 "NameAuction$Name" "end" "I" RX2, .fieldLinkNest RX2 87 "NameAuction$Name" "record" "I" RX2,
  .fieldLinkNest RX2 90 "NameAuction$Name" "lifetime" "I" RX2, .fieldLinkNest RX2 54 "NameAuction$Name" "amounts" "[I" RX2, .fieldLinkNest RX2 57 "NameAuction$Name" "turns" "[I" RX2,
  .methodLinkNest RX2 26 yX1_init RX2, .fieldLinkNest RX2 135 "NameAuction$Resolver" "answers" "[I" RX2, .methodLinkNest RX2 47 yX0_beginAuction RX2,
  .methodLinkNest RX2 63 yX0_countBids RX2, .methodLinkNest RX2 84 yX0_leaseTo RX2, .methodLinkNest RX2 106 yX0_dayOfChange RX2, .methodLinkNest RX2 109 yX0_freeze RX2,
  .methodLinkNest RX2 112 yX0_thaw RX2, .methodLinkNest RX2 162 yX0_goOn RX2, .methodLinkNest RX2 176 yX0_isAhead RX2, .methodLinkNest RX2 173 yX0_release RX2,
  .methodLinkNest RX2 122 yX1_isFresh RX2, .methodLinkNest RX2 125 yX0_answer RX2, .methodLinkNest RX0 62 yX2_isHeld RX2, .methodLinkNest RX2 128 yX0_answerLifetime RX2,
  .methodLinkNest RX2 131 yX1_keep RX2, .methodLinkNest RX2 138 yX1_forgetAll RX2,
  .castable "java/lang/IndexOutOfBoundsException" "java/lang/IndexOutOfBoundsException", .castable "java/lang/IllegalArgumentException" "java/lang/IllegalArgumentException", .castable "java/lang/IllegalStateException" "java/lang/IllegalStateException",
  .declares ⟨"java/lang/RuntimeException", "<init>", "()V"⟩, .declares ⟨"java/lang/Exception", "<init>", "()V"⟩, .declares ⟨"java/lang/Throwable", "<init>", "()V"⟩]
def gKind : Cond → Bool
  | .fieldLinkNest .. => true
  | .methodLinkNest .. => true
  | .castable .. => true
  | .declares .. => true
  | _ => false
theorem gEw_kind : ∀ w ∈ gEw, gKind w = true := by decide +kernel
theorem gNw_warm {w : Cond} (h : gKind w = true) {s U : State} (hW : s.WarmedH U.vm) (hZ : va_Nw w s) : va_Nw w U := by
  cases w <;> first | exact va_Nw.warmF hW hZ | exact va_Nw.warmM hW hZ | exact va_Nw.warmC hW hZ | exact va_Nw.warmD hW hZ | cases h
theorem gNw_same {w : Cond} (h : gKind w = true) {u U : State} (hv : u.vm = U.vm) (hZ : va_Nw w u) : va_Nw w U := by
  cases w <;> first | exact va_Nw.same rfl hv hZ | cases h
abbrev eIO : String := "java/lang/IndexOutOfBoundsException"
abbrev eIA : String := "java/lang/IllegalArgumentException"
abbrev eIS : String := "java/lang/IllegalStateException"
/-- what a method may take of the machine beside its world: links to nest mates, the exceptions' classes, the statics that a throw reads -/
def gE (A : Nat → Prop) (U : State) : Prop := (∀ w ∈ gEw, va_Nw w U) ∧ (va_Nc eIA eIO U ∧ va_Nc eIS eIO U ∧ va_Nc eIS eIA U) ∧ vx_Zq Bundle.tN "UNASSIGNED_STACK" Bundle.steD A U U.heap ∧ vx_Zq Bundle.tN "SUPPRESSED_SENTINEL" Bundle.listD A U U.heap
theorem gE.call {A0 A1 : Nat → Prop} {s U : State} {H : Heap} {locs : List Loc} (h : gE A0 s) (hS : va_S A0 s.heap H locs) (hF : ∀ q, A1 q → A0 q) (hU : U.heap = H) (hW : s.WarmedH U.vm) : gE A1 U := by
  obtain ⟨h1, ⟨n1, n2, n3⟩, h2, h3⟩ := h
  refine ⟨fun w hw => gNw_warm (gEw_kind w hw) hW (h1 w hw), ⟨n1.moved hW.alike, n2.moved hW.alike, n3.moved hW.alike⟩, ?_, ?_⟩
  · rw [hU]; exact vx_Zq.moved hW.alike ((h2.kept hS.2.1).narrow hF)
  · rw [hU]; exact vx_Zq.moved hW.alike ((h3.kept hS.2.1).narrow hF)
theorem gE.blind {A : Nat → Prop} {U : State} {g : JFrame} {mk : MethodId} {a : Array Value} (h : gE A U) : gE A (U.calling g mk a) := by
  obtain ⟨h1, ⟨n1, n2, n3⟩, h2, h3⟩ := h
  have hv : U.vm.Alike (U.calling g mk a).vm := Vm.Alike.refl U.vm
  exact ⟨fun w hw => gNw_same (u := U) (gEw_kind w hw) rfl (h1 w hw), ⟨n1.moved hv, n2.moved hv, n3.moved hv⟩, vx_Zq.moved hv h2, vx_Zq.moved hv h3⟩
/-- a contract's start: the world W, at a heap of sz cells -/
def gS (G : va_G) (T : Nat → ClassId) (W : va_W) (sz : Nat) (U : State) : Prop := U.heap.size = sz ∧ va_P G vwCl W U.heap ∧ va_K G vwCl (gT T) U ∧ va_D (fun _ => True) W ∧ gE (va_A W sz) U
abbrev gPc (G : va_G) (T : Nat → ClassId) (av : List Value) (W : va_W) (sz : Nat) : Array Value → State → Prop := va_Pc av (gS G T W sz)
/-- a contract's end: the world W1 -/
abbrev gB (G : va_G) (W1 : va_W) : Unit → State → Prop := fun _ t => va_P G vwCl W1 t.heap
/-- a throw: the world as it was -/
abbrev gX (G : va_G) (W : va_W) (sz : Nat) (pe : String → Prop) : String → State → State → Prop := vx_X (fun _ : Unit => True) (fun E (_ : Unit) t => pe E ∧ va_P G vwCl W t.heap) (va_A W sz)
theorem gblind {G : va_G} {T : Nat → ClassId} {av : List Value} {W : va_W} {sz : Nat} : FrameBlind (gPc G T av W sz) := by
  intro a U g mk h
  obtain ⟨h0, h1, h2, h3, h4, h5⟩ := h
  exact ⟨h0, h1, h2, va_K.moved (u := U) (U := U.calling g mk a) (Vm.Alike.refl U.vm) h3, h4, h5.blind⟩
theorem gpre {G : va_G} {T : Nat → ClassId} {av : List Value} {A0 : Nat → Prop} {s : State} {ws wc : va_W} {H : Heap} {locs : List Loc} (hE : gE A0 s) (hK : va_K G vwCl (gT T) s) (hP : va_P G vwCl ws H) (hD : va_D A0 ws) (hS : va_S A0 s.heap H locs) (hA : ∀ q, s.heap.size ≤ q → A0 q) (isC : List Nat) (hn : va_nd isC = true) (hC : isC.map (fun i => ws[i]?) = wc.map some) :
    ∀ U : State, U.heap = H → s.WarmedH U.vm → gPc G T av wc H.size av.toArray U := by
  intro U hU hW
  have hD' := hD.sub isC hn hC
  have hP' : va_P G vwCl wc H := by
    refine hP.sub isC ?_
    have h1 : isC.filterMap (fun i => ws[i]?) = (isC.map (fun i => ws[i]?)).filterMap id := by rw [List.filterMap_map]; rfl
    rw [h1, hC, List.filterMap_map]
    simp
  exact ⟨rfl, by rw [hU], by rw [hU]; exact hP', va_K.moved hW.alike hK, hD'.weaken (fun _ _ _ _ => trivial), gE.call hE hS (va_free hD hS hA isC hC) hU hW⟩
/-- the cells at these places anew -/
def gRep : va_W → List Nat → va_W → va_W
  | ws, i :: is, q :: qs => gRep (ws.set i q) is qs
  | ws, _, _ => ws
theorem gRep_get : ∀ (is : List Nat) (qs : va_W) (ws : va_W), is.length = qs.length → ∀ (k : Nat) (q : Nat × va_E), (gRep ws is qs)[k]? = some q → (∃ j : Nat, is[j]? = some k ∧ qs[j]? = some q) ∨ (k ∉ is ∧ ws[k]? = some q) := by
  intro is
  induction is with
  | nil =>
    intro qs ws _ k q hk
    cases qs with
    | nil => exact Or.inr ⟨List.not_mem_nil, hk⟩
    | cons a l => simp at *
  | cons i is ih =>
    intro qs ws hl k q hk
    cases qs with
    | nil => simp at hl
    | cons a l =>
      rcases ih l (ws.set i a) (by simpa using hl) k q hk with ⟨j, h1, h2⟩ | ⟨h1, h2⟩
      · exact Or.inl ⟨j + 1, by simpa using h1, by simpa using h2⟩
      · by_cases hki : k = i
        · subst hki
          have hlt : k < ws.length := by
            have := (List.getElem?_eq_some_iff.mp h2).1
            simpa using this
          rw [List.getElem?_set_self hlt] at h2
          exact Or.inl ⟨0, rfl, h2⟩
        · rw [List.getElem?_set_ne (Ne.symm hki)] at h2
          exact Or.inr ⟨fun h => (List.mem_cons.mp h).elim hki h1, h2⟩
/-- behind a call: the callee's cells as it left them, at their places -/
theorem gjoin {A0 : Nat → Prop} {G : va_G} {ws wc w1 : va_W} {H H1 : Heap} (hP : va_P G vwCl ws H) (hD : va_D A0 ws) (isC : List Nat) (hC : isC.map (fun i => ws[i]?) = wc.map some) (h1 : w1.map Prod.fst = wc.map Prod.fst)
    (hk : ∀ q : Nat, q < H.size → ¬ va_A wc H.size q → H1[q]? = H[q]?) (hP1 : va_P G vwCl w1 H1) : va_P G vwCl (gRep ws isC w1) H1 ∧ va_D A0 (gRep ws isC w1) := by
  have hl : isC.length = w1.length := by
    have e1 := congrArg List.length hC
    have e2 := congrArg List.length h1
    simp only [List.length_map] at e1 e2
    omega
  have at' : ∀ (j : Nat) (q : Nat × va_E), wc[j]? = some q → ∃ i, isC[j]? = some i ∧ ws[i]? = some q := by
    intro j q hq
    have h2 : (isC.map (fun i => ws[i]?))[j]? = some (some q) := by rw [hC, List.getElem?_map, hq]; rfl
    rw [List.getElem?_map] at h2
    cases hi : isC[j]? with
    | none => rw [hi] at h2; cases h2
    | some i => rw [hi] at h2; exact ⟨i, rfl, Option.some.inj h2⟩
  have ad : ∀ (j : Nat) (q : Nat × va_E), w1[j]? = some q → ∃ q', wc[j]? = some q' ∧ q'.1 = q.1 := by
    intro j q hq
    have h2 : (w1.map Prod.fst)[j]? = some q.1 := by rw [List.getElem?_map, hq]; rfl
    rw [h1, List.getElem?_map] at h2
    cases hi : wc[j]? with
    | none => rw [hi] at h2; cases h2
    | some i => rw [hi] at h2; exact ⟨i, rfl, Option.some.inj h2⟩
  have old : ∀ (k : Nat) (q : Nat × va_E), (gRep ws isC w1)[k]? = some q → ∃ q', ws[k]? = some q' ∧ q'.1 = q.1 := by
    intro k q hq
    rcases gRep_get isC w1 ws hl k q hq with ⟨j, h2, h3⟩ | ⟨-, h3⟩
    · obtain ⟨q', h4, h5⟩ := ad j q h3
      obtain ⟨i, h6, h7⟩ := at' j q' h4
      rw [h2] at h6
      cases h6
      exact ⟨q', h7, h5⟩
    · exact ⟨q, h3, rfl⟩
  refine ⟨fun k q hq => ?_, fun i j x y hi hj hxy => ?_, fun k q hq => ?_⟩
  · rcases gRep_get isC w1 ws hl k q hq with ⟨j, -, h3⟩ | ⟨h2, h3⟩
    · exact hP1 j q h3
    · refine (hP k q h3).kept (hk q.1 (hP k q h3).lt (fun h => ?_))
      rcases h with ⟨j, e, h⟩ | h
      · obtain ⟨i, h4, h5⟩ := at' j (q.1, e) h
        have hij := hD.1 k i q (q.1, e) h3 h5 rfl
        subst hij
        exact h2 (List.mem_of_getElem? h4)
      · have := (hP k q h3).lt
        omega
  · obtain ⟨x', h2, h3⟩ := old i x hi
    obtain ⟨y', h4, h5⟩ := old j y hj
    exact hD.1 i j x' y' h2 h4 (h3.trans (hxy.trans h5.symm))
  · obtain ⟨q', h2, h3⟩ := old k q hq
    rw [← h3]
    exact hD.2 k q' h2
section GC
variable {p : Program} {l : Launch} {e : Env} {R : Room} {s : State} {m : MethodId} {args : Array Value} {below : List Frame} {meth : Method} {c : Code} {H : Heap} {locs : List Loc} {cells slots : Nat} {Q : State → Prop}
variable {pc : Nat} {ls : Array Slot} {rest st0 : List Value} {a : Array Value} {A0 : Nat → Prop} {mc ms : Nat} {G : va_G} {ws wc w1 : va_W}
/-- behind a call that answers an int -/
theorem gci {post : Int32 → Unit → Prop} (hr : va_Run p l e R s m args below meth c H locs cells slots mc ms (F0 m pc ls st0) rest (va_Qi post (gB G w1) (va_A wc H.size) a) (va_A wc H.size))
    (hP : va_P G vwCl ws H) (hD : va_D A0 ws) (hS : va_S A0 s.heap H locs) (hA : ∀ q, s.heap.size ≤ q → A0 q) (isC : List Nat) (hC : isC.map (fun i => ws[i]?) = wc.map some) (h1 : w1.map Prod.fst = wc.map Prod.fst)
    (kk : ∀ (r : Int32) (H1 : Heap) (locs1 : List Loc), post r () → va_P G vwCl (gRep ws isC w1) H1 → va_D A0 (gRep ws isC w1) → va_S A0 s.heap H1 locs1 → W p l e R s m args below meth c H1 locs1 (cells + mc) (slots + ms) Q (F0 m (pc + 3) ls (.int r :: rest))) : W p l e R s m args below meth c H locs cells slots Q (F0 m pc ls st0) := by
  have hF := va_free hD hS hA isC hC
  refine va_calli hr hS (fun q _ h => hF q h) hF (fun r u t H1 locs1 ht hvm hw hB hz1 hk1 hS1 => ?_)
  have hB : va_P G vwCl w1 t.heap := hB
  rw [ht] at hB
  obtain ⟨h2, h3⟩ := gjoin hP hD isC hC h1 hk1 hB
  exact kk r H1 locs1 hw h2 h3 hS1
/-- behind a call that answers nothing -/
theorem gcv {post : Unit → Prop} (hr : va_Run p l e R s m args below meth c H locs cells slots mc ms (F0 m pc ls st0) rest (va_Qv post (gB G w1) (va_A wc H.size) a) (va_A wc H.size))
    (hP : va_P G vwCl ws H) (hD : va_D A0 ws) (hS : va_S A0 s.heap H locs) (hA : ∀ q, s.heap.size ≤ q → A0 q) (isC : List Nat) (hC : isC.map (fun i => ws[i]?) = wc.map some) (h1 : w1.map Prod.fst = wc.map Prod.fst)
    (kk : ∀ (H1 : Heap) (locs1 : List Loc), post () → va_P G vwCl (gRep ws isC w1) H1 → va_D A0 (gRep ws isC w1) → va_S A0 s.heap H1 locs1 → W p l e R s m args below meth c H1 locs1 (cells + mc) (slots + ms) Q (F0 m (pc + 3) ls rest)) : W p l e R s m args below meth c H locs cells slots Q (F0 m pc ls st0) := by
  have hF := va_free hD hS hA isC hC
  refine va_callv hr hS (fun q _ h => hF q h) hF (fun u t H1 locs1 ht hvm hw hB hz1 hk1 hS1 => ?_)
  have hB : va_P G vwCl w1 t.heap := hB
  rw [ht] at hB
  obtain ⟨h2, h3⟩ := gjoin hP hD isC hC h1 hk1 hB
  exact kk H1 locs1 hw h2 h3 hS1
/-- behind a call that answers an int or throws -/
theorem gxi {post : Int32 → Unit → Prop} {pe : String → Prop} (hr : vx_Run p l e R s m args below meth c H locs cells slots mc ms (F0 m pc ls st0) rest (va_Qi post (gB G w1) (va_A wc H.size) a) (gX G wc H.size pe) (va_A wc H.size))
    (hP : va_P G vwCl ws H) (hD : va_D A0 ws) (hS : va_S A0 s.heap H locs) (hA : ∀ q, s.heap.size ≤ q → A0 q) (isC : List Nat) (hC : isC.map (fun i => ws[i]?) = wc.map some) (h1 : w1.map Prod.fst = wc.map Prod.fst)
    (kx : ∀ (E : String) (ce : Cell) (q9 : Addr) (H1 : Heap) (locs1 : List Loc), pe E → va_P G vwCl (gRep ws isC wc) H1 → va_D A0 (gRep ws isC wc) → va_S A0 s.heap H1 locs1 → H1[q9]? = some ce → ce.vm = .none → s.vm.findClass E = some ce.cls → vx_W p l e R s m args below meth c H1 locs1 (cells + mc) (slots + ms) Q (F0 m pc ls rest) q9)
    (kk : ∀ (r : Int32) (H1 : Heap) (locs1 : List Loc), post r () → va_P G vwCl (gRep ws isC w1) H1 → va_D A0 (gRep ws isC w1) → va_S A0 s.heap H1 locs1 → W p l e R s m args below meth c H1 locs1 (cells + mc) (slots + ms) Q (F0 m (pc + 3) ls (.int r :: rest))) : W p l e R s m args below meth c H locs cells slots Q (F0 m pc ls st0) := by
  have hF := va_free hD hS hA isC hC
  refine vx_calli hr hS (fun q _ h => hF q h) hF (fun q _ h => hF q h) (fun E ce q9 u t H1 locs1 ht hvm _ hB hz1 hk1 hS1 hce hcv hcl => ?_) (fun r u t H1 locs1 ht hvm hw hB hz1 hk1 hS1 => ?_)
  · have hB : pe E ∧ va_P G vwCl wc t.heap := hB
    rw [ht] at hB
    obtain ⟨h2, h3⟩ := gjoin hP hD isC hC rfl hk1 hB.2
    exact kx E ce q9 H1 locs1 hB.1 h2 h3 hS1 hce hcv hcl
  · have hB : va_P G vwCl w1 t.heap := hB
    rw [ht] at hB
    obtain ⟨h2, h3⟩ := gjoin hP hD isC hC h1 hk1 hB
    exact kk r H1 locs1 hw h2 h3 hS1
/-- behind a call that answers nothing or throws -/
theorem gxv {post : Unit → Prop} {pe : String → Prop} (hr : vx_Run p l e R s m args below meth c H locs cells slots mc ms (F0 m pc ls st0) rest (va_Qv post (gB G w1) (va_A wc H.size) a) (gX G wc H.size pe) (va_A wc H.size))
    (hP : va_P G vwCl ws H) (hD : va_D A0 ws) (hS : va_S A0 s.heap H locs) (hA : ∀ q, s.heap.size ≤ q → A0 q) (isC : List Nat) (hC : isC.map (fun i => ws[i]?) = wc.map some) (h1 : w1.map Prod.fst = wc.map Prod.fst)
    (kx : ∀ (E : String) (ce : Cell) (q9 : Addr) (H1 : Heap) (locs1 : List Loc), pe E → va_P G vwCl (gRep ws isC wc) H1 → va_D A0 (gRep ws isC wc) → va_S A0 s.heap H1 locs1 → H1[q9]? = some ce → ce.vm = .none → s.vm.findClass E = some ce.cls → vx_W p l e R s m args below meth c H1 locs1 (cells + mc) (slots + ms) Q (F0 m pc ls rest) q9)
    (kk : ∀ (H1 : Heap) (locs1 : List Loc), post () → va_P G vwCl (gRep ws isC w1) H1 → va_D A0 (gRep ws isC w1) → va_S A0 s.heap H1 locs1 → W p l e R s m args below meth c H1 locs1 (cells + mc) (slots + ms) Q (F0 m (pc + 3) ls rest)) : W p l e R s m args below meth c H locs cells slots Q (F0 m pc ls st0) := by
  have hF := va_free hD hS hA isC hC
  refine vx_callv hr hS (fun q _ h => hF q h) hF (fun q _ h => hF q h) (fun E ce q9 u t H1 locs1 ht hvm _ hB hz1 hk1 hS1 hce hcv hcl => ?_) (fun u t H1 locs1 ht hvm hw hB hz1 hk1 hS1 => ?_)
  · have hB : pe E ∧ va_P G vwCl wc t.heap := hB
    rw [ht] at hB
    obtain ⟨h2, h3⟩ := gjoin hP hD isC hC rfl hk1 hB.2
    exact kx E ce q9 H1 locs1 hB.1 h2 h3 hS1 hce hcv hcl
  · have hB : va_P G vwCl w1 t.heap := hB
    rw [ht] at hB
    obtain ⟨h2, h3⟩ := gjoin hP hD isC hC h1 hk1 hB
    exact kk H1 locs1 hw h2 h3 hS1
/-- a throw leaves a body without handlers -/
theorem gout {Qc : Array Value → State → Outcome → State → Prop} {W0 : va_W} {pe : String → Prop} {E : String} {ce : Cell} {q9 : Addr} (hout : ∀ x ∈ c.exceptionTable.toList, False) (hlocks : meth.locks = false) (hpe : pe E) (hP : va_P G vwCl W0 H) (hS : va_S (va_A W0 s.heap.size) s.heap H locs) (hce : H[q9]? = some ce) (hcv : ce.vm = .none) (hcl : s.vm.findClass E = some ce.cls) (h1 : cells ≤ mc) (h2 : slots ≤ ms) :
    vx_W p l e R s m args below meth c H locs cells slots (vx_MQ below Qc (gX G W0 s.heap.size pe) args s mc ms (va_A W0 s.heap.size)) (F0 m pc ls rest) q9 :=
  vx_out (fun x hx => (hout x hx).elim) hlocks hce hcv hcl (fun t ht _ => ⟨(), trivial, ⟨hpe, by rw [ht]; exact hP⟩, hS.F ht⟩) hS.2.2 h1 h2
end GC
end
section
/-! WORLDS of a name, a resolver, the class, the reference; rows over them -/
/-- a name: its object at a, its amounts at b, its turns at c; N its ints by their place -/
abbrev cN (T : Nat → ClassId) (a b c : Nat) (N f g : Nat → Int32) : va_W := [(a, .inr (0, [.int (N 0), .int (N 1), .int (N 2), .int (N 3), .int (N 4), .int (N 5), .int (N 6), .int (N 7), .int (N 8), .ref b, .ref c])), (b, .inl (T 0, 6, .inl f)), (c, .inl (T 0, 6, .inl g))]
/-- a resolver: its object at a; kept, answers, lifetimes, takenOn -/
abbrev cR (T : Nat → ClassId) (a b c d e : Nat) (k f g h : Nat → Int32) : va_W := [(a, .inr (1, [.ref b, .ref c, .ref d, .ref e])), (b, .inl (T 1, 16, .inl k)), (c, .inl (T 0, 16, .inl f)), (d, .inl (T 0, 16, .inl g)), (e, .inl (T 0, 16, .inl h))]
/-- the class: its object, the money, the rows of names and resolvers; D 3, D 4, D 5: day, paid, bidsMade -/
abbrev cA (T : Nat → ClassId) (na mo nm rs : Nat) (D f : Nat → Int32) (nA rA : Nat → Nat) : va_W := [(na, .inr (2, [.ref mo, .ref nm, .ref rs, .int (D 3), .int (D 4), .int (D 5)])), (mo, .inl (T 0, 6, .inl f)), (nm, .inl (T 2, 16, .inr (.inr (.inr (.inr (fun j => some (nA j))))))), (rs, .inl (T 3, 3, .inr (.inr (.inr (.inr (fun j => some (rA j)))))))]
/-- the reference: its object at m, its rows at A 2 .. A 16 (by the place of the field); I its ints, F its rows -/
abbrev cM (T : Nat → ClassId) (m : Nat) (A : Nat → Nat) (I : Nat → Int32) (F : Nat → Nat → Int32) : va_W := [(m, .inr (3, [.int (I 0), .int (I 1), .ref (A 2), .ref (A 3), .ref (A 4), .ref (A 5), .ref (A 6), .ref (A 7), .ref (A 8), .ref (A 9), .ref (A 10), .ref (A 11), .ref (A 12), .int (I 13), .ref (A 14), .ref (A 15), .ref (A 16), .int (I 17)])), (A 2, .inl (T 0, 6, .inl (F 2))), (A 3, .inl (T 0, 16, .inl (F 3))), (A 4, .inl (T 0, 16, .inl (F 4))), (A 5, .inl (T 0, 16, .inl (F 5))), (A 6, .inl (T 0, 16, .inl (F 6))), (A 7, .inl (T 0, 16, .inl (F 7))), (A 8, .inl (T 0, 16, .inl (F 8))), (A 9, .inl (T 0, 16, .inl (F 9))), (A 10, .inl (T 0, 16, .inl (F 10))), (A 11, .inl (T 0, 96, .inl (F 11))), (A 12, .inl (T 0, 96, .inl (F 12))), (A 14, .inl (T 0, 48, .inl (F 14))), (A 15, .inl (T 0, 48, .inl (F 15))), (A 16, .inl (T 0, 48, .inl (F 16)))]
/-- a row of the reference anew -/
def updA (F : Nat → Nat → Int32) (k : Nat) (g : Nat → Int32) : Nat → Nat → Int32 := fun j => if j = k then g else F j
theorem gfin {G : va_G} {W1 W2 : va_W} {H : Heap} (h : va_P G vwCl W1 H) (e : W1 = W2) : va_P G vwCl W2 H := e ▸ h
theorem gfinD {A : Nat → Prop} {W1 W2 : va_W} (h : va_D A W1) (e : W1 = W2) : va_D A W2 := e ▸ h
theorem gBi {G : va_G} {W1 : va_W} {t : State} {H : Heap} (ht : t.heap = H) (h : va_P G vwCl W1 H) : gB G W1 () t := by
  show va_P G vwCl W1 t.heap
  rw [ht]; exact h
theorem gin {x : Int32} {j n : Nat} (hi : x = nI j) (hj : j < n) (hn : n < 2 ^ 31) : vp_in x n := by rw [hi]; exact vp_in_nI hj hn
theorem gcl {x : Int32} {j n : Nat} (hi : x = nI j) (hj : j < n) (hn : n < 2 ^ 31) : x.toNatClampNeg = j := by rw [hi]; exact nI_clamp (by omega)
section GR
variable {p : Program} {l : Launch} {e : Env} {R : Room} {s : State} {m : MethodId} {args : Array Value} {below : List Frame} {meth : Method} {c : Code} {H : Heap} {locs : List Loc} {cells slots : Nat} {Q : State → Prop}
variable {cc : ByteArray} {pc : Nat} {ls : Array Slot} {rest : List Value} {D : va_G} {cl : List vw_C} {A : Nat → Prop} {a : Nat} {tys : List (ClassId × FieldType)} {ws : va_W} {H0 : Heap}
theorem gtop {x y : Int32} (h : x = y) (k : W p l e R s m args below meth c H locs cells slots Q (F0 m pc ls (.int y :: rest))) : W p l e R s m args below meth c H locs cells slots Q (F0 m pc ls (.int x :: rest)) := by subst h; exact k
theorem giald (hexec : p.tables.exec = Jvm.exec) (hb : c.code = cc) (hK : va_K D cl tys s) (hP : va_P D cl ws H) (q0 t0 : Nat) {cA : ClassId} {n j : Nat} {f : Nat → Int32} (ha : ws[q0]? = some (a, .inl (cA, n, .inl f))) (ht : tys[t0]? = some (cA, .int)) {i : Int32} (hi : i = nI j) (hj : j < n) (hn : n < 2 ^ 31) (hdg : decode cc pc = .ok (.iaload, 1))
    (kk : W p l e R s m args below meth c H locs cells slots Q (F0 m (pc + 1) ls (.int (f j) :: rest))) : W p l e R s m args below meth c H locs cells slots Q (F0 m pc ls (.int i :: .ref a :: rest)) := by
  refine va_iald hexec hb hK hP q0 t0 ha ht (gin hi hj hn) hdg ?_
  rw [gcl hi hj hn]; exact kk
theorem gzald (hexec : p.tables.exec = Jvm.exec) (hb : c.code = cc) (hK : va_K D cl tys s) (hP : va_P D cl ws H) (q0 t0 : Nat) {cA : ClassId} {n j : Nat} {f : Nat → Int32} (ha : ws[q0]? = some (a, .inl (cA, n, .inl f))) (ht : tys[t0]? = some (cA, .boolean)) {i : Int32} (hi : i = nI j) (hj : j < n) (hn : n < 2 ^ 31) (hdg : decode cc pc = .ok (.baload, 1))
    (kk : W p l e R s m args below meth c H locs cells slots Q (F0 m (pc + 1) ls (.int (f j) :: rest))) : W p l e R s m args below meth c H locs cells slots Q (F0 m pc ls (.int i :: .ref a :: rest)) := by
  refine va_zald hexec hb hK hP q0 t0 ha ht (gin hi hj hn) hdg ?_
  rw [gcl hi hj hn]; exact kk
theorem galdr (hexec : p.tables.exec = Jvm.exec) (hb : c.code = cc) (hK : va_K D cl tys s) (hP : va_P D cl ws H) (q0 t0 : Nat) {cA : ClassId} {C : String} {n j : Nat} {g : Nat → Nat} (ha : ws[q0]? = some (a, .inl (cA, n, .inr (.inr (.inr (.inr (fun j => some (g j)))))))) (ht : tys[t0]? = some (cA, .object C)) {i : Int32} (hi : i = nI j) (hj : j < n) (hn : n < 2 ^ 31) (hdg : decode cc pc = .ok (.aaload, 1))
    (kk : W p l e R s m args below meth c H locs cells slots Q (F0 m (pc + 1) ls (.ref (g j) :: rest))) : W p l e R s m args below meth c H locs cells slots Q (F0 m pc ls (.int i :: .ref a :: rest)) := by
  refine va_aldq hexec hb hK hP q0 t0 ha ht (gin hi hj hn) hdg ?_
  rw [gcl hi hj hn]; exact kk
theorem glald (hexec : p.tables.exec = Jvm.exec) (hb : c.code = cc) (hK : va_K D cl tys s) (hP : va_P D cl ws H) (q0 t0 : Nat) {cA : ClassId} {n j : Nat} {f : Nat → Int64} (ha : ws[q0]? = some (a, .inl (cA, n, .inr (.inl f)))) (ht : tys[t0]? = some (cA, .long)) {i : Int32} (hi : i = nI j) (hj : j < n) (hn : n < 2 ^ 31) (hdg : decode cc pc = .ok (.laload, 1))
    (kk : W p l e R s m args below meth c H locs cells slots Q (F0 m (pc + 1) ls (.long (f j) :: rest))) : W p l e R s m args below meth c H locs cells slots Q (F0 m pc ls (.int i :: .ref a :: rest)) := by
  refine va_lald hexec hb hK hP q0 t0 ha ht (gin hi hj hn) hdg ?_
  rw [gcl hi hj hn]; exact kk
theorem giast (hexec : p.tables.exec = Jvm.exec) (hb : c.code = cc) (hK : va_K D cl tys s) (hP : va_P D cl ws H) (hD : va_D A ws) (hS : va_S A H0 H locs) (q0 t0 : Nat) {cA : ClassId} {n j : Nat} {f : Nat → Int32} (ha : ws[q0]? = some (a, .inl (cA, n, .inl f))) (ht : tys[t0]? = some (cA, .int)) {i : Int32} {x : Int32} (hi : i = nI j) (hj : j < n) (hn : n < 2 ^ 31) (hdg : decode cc pc = .ok (.iastore, 1))
    (kk : ∀ (H1 : Heap) (locs1 : List Loc), va_P D cl (ws.set q0 (a, .inl (cA, n, .inl (upd f j x)))) H1 → va_D A (ws.set q0 (a, .inl (cA, n, .inl (upd f j x)))) → va_S A H0 H1 locs1 → W p l e R s m args below meth c H1 locs1 cells slots Q (F0 m (pc + 1) ls rest)) : W p l e R s m args below meth c H locs cells slots Q (F0 m pc ls (.int x :: .int i :: .ref a :: rest)) := by
  refine va_iast hexec hb hK hP hD hS q0 t0 ha ht (gin hi hj hn) hdg ?_
  rw [gcl hi hj hn]; exact kk
theorem gzast (hexec : p.tables.exec = Jvm.exec) (hb : c.code = cc) (hK : va_K D cl tys s) (hP : va_P D cl ws H) (hD : va_D A ws) (hS : va_S A H0 H locs) (q0 t0 : Nat) {cA : ClassId} {n j : Nat} {f : Nat → Int32} (ha : ws[q0]? = some (a, .inl (cA, n, .inl f))) (ht : tys[t0]? = some (cA, .boolean)) {i : Int32} {x : Int32} (hi : i = nI j) (hj : j < n) (hn : n < 2 ^ 31) (hx : vp_nar .boolean x = x) (hdg : decode cc pc = .ok (.bastore, 1))
    (kk : ∀ (H1 : Heap) (locs1 : List Loc), va_P D cl (ws.set q0 (a, .inl (cA, n, .inl (upd f j x)))) H1 → va_D A (ws.set q0 (a, .inl (cA, n, .inl (upd f j x)))) → va_S A H0 H1 locs1 → W p l e R s m args below meth c H1 locs1 cells slots Q (F0 m (pc + 1) ls rest)) : W p l e R s m args below meth c H locs cells slots Q (F0 m pc ls (.int x :: .int i :: .ref a :: rest)) := by
  refine va_zast hexec hb hK hP hD hS q0 t0 ha ht (gin hi hj hn) hdg ?_
  rw [gcl hi hj hn, hx]; exact kk
theorem glast (hexec : p.tables.exec = Jvm.exec) (hb : c.code = cc) (hK : va_K D cl tys s) (hP : va_P D cl ws H) (hD : va_D A ws) (hS : va_S A H0 H locs) (q0 t0 : Nat) {cA : ClassId} {n j : Nat} {f : Nat → Int64} (ha : ws[q0]? = some (a, .inl (cA, n, .inr (.inl f)))) (ht : tys[t0]? = some (cA, .long)) {i : Int32} {x : Int64} (hi : i = nI j) (hj : j < n) (hn : n < 2 ^ 31) (hdg : decode cc pc = .ok (.lastore, 1))
    (kk : ∀ (H1 : Heap) (locs1 : List Loc), va_P D cl (ws.set q0 (a, .inl (cA, n, .inr (.inl (vp_updL f j x))))) H1 → va_D A (ws.set q0 (a, .inl (cA, n, .inr (.inl (vp_updL f j x))))) → va_S A H0 H1 locs1 → W p l e R s m args below meth c H1 locs1 cells slots Q (F0 m (pc + 1) ls rest)) : W p l e R s m args below meth c H locs cells slots Q (F0 m pc ls (.long x :: .int i :: .ref a :: rest)) := by
  refine va_last hexec hb hK hP hD hS q0 t0 ha ht (gin hi hj hn) hdg ?_
  rw [gcl hi hj hn]; exact kk
end GR
/-- an int row is what it holds below its length -/
theorem gcell (cI : ClassId) {n : Nat} {f g : Nat → Int32} (h : ∀ j, j < n → f j = g j) : vp_cell cI (n, .inl f) = vp_cell cI (n, .inl g) := by
  have e : (fun j : Fin n => (Value.int (f j.val))) = (fun j : Fin n => Value.int (g j.val)) := funext fun j => by rw [h j.val j.isLt]
  show arrV cI n (fun j => .int (f j)) = arrV cI n (fun j => .int (g j))
  simp only [arrV]
  rw [e]
/-- .. so a world's int row may be said by another function -/
theorem grow {G : va_G} {ws : va_W} {H : Heap} (h : va_P G vwCl ws H) (q0 : Nat) {a : Nat} {cI : ClassId} {n : Nat} {f : Nat → Int32} (ha : ws[q0]? = some (a, .inl (cI, n, .inl f))) (g : Nat → Int32) (hg : ∀ j, j < n → f j = g j) : va_P G vwCl (ws.set q0 (a, .inl (cI, n, .inl g))) H := by
  intro k q hk
  by_cases hkp : k = q0
  · subst hkp
    have hl := (List.getElem?_eq_some_iff.mp ha).1
    rw [List.getElem?_set_self hl] at hk
    cases hk
    have h1 := h k _ ha
    show H[a]? = some (vp_cell cI (n, .inl g))
    rw [← gcell cI hg]
    exact h1
  · rw [List.getElem?_set_ne (Ne.symm hkp)] at hk
    exact h k q hk
end
section
/-! LEAVES: Arrays.fill, the names, the resolvers, the checks -/
def fa_fill2 (v : Int32) (f : Nat → Int32) (i : Nat) : Nat → Int32 := fun j => if j < i then v else f j
theorem fa_fill2_0 (v : Int32) (f : Nat → Int32) : fa_fill2 v f 0 = f := by
  funext j
  simp only [fa_fill2]
  rw [if_neg (by omega)]
theorem gfill_up (v : Int32) (f : Nat → Int32) (i : Nat) : upd (fa_fill2 v f i) i v = fa_fill2 v f (i + 1) := by
  funext j
  simp only [upd, fa_fill2]
  by_cases h : j = i
  · subst h; rw [if_pos rfl, if_pos (by omega)]
  · rw [if_neg h]
    by_cases h2 : j < i
    · rw [if_pos h2, if_pos (by omega)]
    · rw [if_neg h2, if_neg (by omega)]
def bI (b : Bool) : Int32 := if b then 1 else 0
abbrev PJ7_fill_53178 (G : va_G) (T : Nat → ClassId) (x1 len : Nat) (f : Nat → Int32) (v : Int32) (sz : Nat) : Array Value → State → Prop := gPc G T [.ref x1, .int v] ([(x1, .inl (T 0, len, .inl f))]) sz
abbrev QJ7_fill_53178 (G : va_G) (T : Nat → ClassId) (x1 len : Nat) (f : Nat → Int32) (v : Int32) (sz : Nat) : Array Value → State → Outcome → State → Prop := va_Qv (fun _ : Unit => True) (gB G ([(x1, .inl (T 0, len, .inl (fun _ => v)))])) (va_A ([(x1, .inl (T 0, len, .inl f))]) sz)
set_option maxHeartbeats 4000000 in
set_option maxRecDepth 100000 in
theorem kJ7_fill_53178 (l : Launch) (G : va_G) (T : Nat → ClassId) (x1 len : Nat) (f : Nat → Int32) (v : Int32) (sz : Nat) (hlen : len < 2 ^ 31) : Met l yJ7_fill_53178 wsJ7_fill_53178 ({ frames := 0, cells := 0, slots := 0, locals := 0 } : Room) (PJ7_fill_53178 G T x1 len f v sz) (QJ7_fill_53178 G T x1 len f v sz) 0 0 (va_A ([(x1, .inl (T 0, len, .inl f))]) sz) := by
  refine Met.ofW (cc := cJ7_fill_53178) (maxL := 4) (ret := none) (by decide) rfl ?_
  intro p e s m args below meth c s₁ B hml hv
  obtain ⟨rfl, hsz, hP, hK, hD0, hE⟩ := hv
  have hx := B.exec
  have hb := B.bytes
  have hr := B.returns
  have hts := atoms_spec (ws := wsJ7_fill_53178) B.pre
  have hown : s.vm.findClass RJ7 = some m.cls := findClass_of_methodNamed B.named
  have hlocks := B.notSynchronized
  subst hsz
  have hD := hD0.self (sz := s.heap.size)
  have hA : ∀ q : Nat, s.heap.size ≤ q → (va_A ([(x1, .inl (T 0, len, .inl f))]) s.heap.size) q := fun q h => Or.inr h
  have hS : va_S (va_A ([(x1, .inl (T 0, len, .inl f))]) s.heap.size) s.heap s.heap [] := va_S.rf
  have hl := lv_entry ([.ref x1, .int v]) (n := 4) (Nat.le_of_ble_eq_true rfl)
  rw [lg_entry_eq]
  generalize (lg_sl ([.ref x1, .int v]) ++ List.replicate (4 - (lg_sl ([.ref x1, .int v])).length) Slot.unset).toArray = ls at hl ⊢
  have hl : lv_has ls 4 [(0, .ref x1), (1, .int v)] := hl
  have hP : va_P G vwCl ([(x1, .inl (T 0, len, .inl f))]) s.heap := hP
  refine lv_iconst (v := 0) hx hb dJ7_fill_53178_0 (by decide) ?_
  refine lv_istore_n (lv' := [(2, .int 0), (0, .ref x1), (1, .int v)]) hx hb dJ7_fill_53178_1 rfl hl (by decide) rfl (fun ls hl => ?_)
  refine lv_aload_n hx hb dJ7_fill_53178_2 rfl (lv_at hl 1 rfl) ?_
  refine va_alen hx hb hK hP 0 0 rfl rfl (v := nI len) rfl dJ7_fill_53178_3 ?_
  refine lv_istore_n (lv' := [(3, .int (nI len)), (2, .int 0), (0, .ref x1), (1, .int v)]) hx hb dJ7_fill_53178_4 rfl hl (by decide) rfl (fun ls hl => ?_)
  have J5 : ∀ n9 : Nat, ∀ (i : Nat) (H : Heap) (locs : List Loc) (ls : Array Slot), i ≤ len → len + 1 ≤ i + n9 → va_P G vwCl ([(x1, .inl (T 0, len, .inl (fa_fill2 v f i)))]) H → va_D (va_A ([(x1, .inl (T 0, len, .inl f))]) s.heap.size) ([(x1, .inl (T 0, len, .inl (fa_fill2 v f i)))]) → va_S (va_A ([(x1, .inl (T 0, len, .inl f))]) s.heap.size) s.heap H locs → lv_has ls 4 [(0, .ref x1), (1, .int v), (2, .int (nI i)), (3, .int (nI len))] → W p l e (headSpec wsJ7_fill_53178 ({ frames := 0, cells := 0, slots := 0, locals := 0 } : Room)).room s m ([.ref x1, .int v] : List Value).toArray below meth c H locs 0 0 (MQ below (QJ7_fill_53178 G T x1 len f v s.heap.size) ([.ref x1, .int v] : List Value).toArray s 0 0 (va_A ([(x1, .inl (T 0, len, .inl f))]) s.heap.size)) (F0 m 5 ls []) := by
    intro n9
    induction n9 with
    | zero => intro i H locs ls hi hm hP hD hS hl; exact absurd (hm) (by omega)
    | succ n9 ih =>
      intro i H locs ls hi hm hP hD hS hl
      refine lv_iload_n hx hb dJ7_fill_53178_5 rfl (lv_at hl 2 rfl) ?_
      refine lv_iload_n hx hb dJ7_fill_53178_6 rfl (lv_at hl 3 rfl) ?_
      refine lv_icmp_ge (tgt := 20) hx hb dJ7_fill_53178_7 (by decide) (fun c7 => ?_) (fun c7 => ?_)
      · skip
        have hge : i = len := by
          rcases Nat.lt_or_ge i len with q | q
          · exact absurd c7 (nI_ge q (by omega))
          · omega
        have hP := grow hP 0 rfl (fun _ => v) (fun j hj => by simp only [fa_fill2]; rw [if_pos (by omega)])
        have hP : va_P G vwCl ([(x1, .inl (T 0, len, .inl (fun _ => v)))]) H := hP
        exact W.vret hx hb hr (fun t ht9 hW => ⟨⟨(), rfl, trivial, gBi ht9 hP⟩, hS.F ht9⟩) hS.2.2 dJ7_fill_53178_20
      · skip
        have hlt : i < len := by
          rcases Nat.lt_or_ge i len with q | q
          · exact q
          · exact absurd (nI_le q (by omega)) c7
        refine lv_aload_n hx hb dJ7_fill_53178_10 rfl (lv_at hl 0 rfl) ?_
        refine lv_iload_n hx hb dJ7_fill_53178_11 rfl (lv_at hl 2 rfl) ?_
        refine lv_iload_n hx hb dJ7_fill_53178_12 rfl (lv_at hl 1 rfl) ?_
        refine giast (j := i) hx hb hK hP hD hS 0 0 rfl rfl (show (nI i : Int32) = nI i from rfl) (by omega) hlen dJ7_fill_53178_13 (fun H locs hP hD hS => ?_)
        have hP : va_P G vwCl ([(x1, .inl (T 0, len, .inl (upd (fa_fill2 v f i) i v)))]) H := hP
        have hD : va_D (va_A ([(x1, .inl (T 0, len, .inl f))]) s.heap.size) ([(x1, .inl (T 0, len, .inl (upd (fa_fill2 v f i) i v)))]) := hD
        refine lv_iinc (v := nI (i + 1)) (lv' := [(2, .int (nI (i + 1))), (0, .ref x1), (1, .int v), (3, .int (nI len))]) hx hb dJ7_fill_53178_14 hl (k := 2) rfl (by first | rfl | exact (nI_add i 1)) (by decide) rfl (fun ls hl => ?_)
        refine lv_goto (tgt := 5) hx hb dJ7_fill_53178_17 (by decide) ?_
        exact ih (i + 1) _ _ _ (by omega) (by omega) (gfin hP (by rw [gfill_up])) (gfinD hD (by rw [gfill_up])) hS (lv_sub hl [1, 2, 0, 3] rfl)
  exact J5 (len + 1) 0 _ _ _ (by omega) (by omega) (gfin hP (by rw [fa_fill2_0])) (gfinD hD (by rw [fa_fill2_0])) hS (lv_sub hl [2, 3, 1, 0] rfl)
abbrev PX0_dropBids (G : va_G) (T : Nat → ClassId) (x1 x2 x3 : Nat) (N f g : Nat → Int32) (sz : Nat) : Array Value → State → Prop := gPc G T [.ref x1] (cN T x1 x2 x3 N f g) sz
abbrev QX0_dropBids (G : va_G) (T : Nat → ClassId) (x1 x2 x3 : Nat) (N f g : Nat → Int32) (sz : Nat) : Array Value → State → Outcome → State → Prop := va_Qv (fun _ : Unit => True) (gB G (cN T x1 x2 x3 N (fun _ => 0) g)) (va_A (cN T x1 x2 x3 N f g) sz)
set_option maxHeartbeats 4000000 in
set_option maxRecDepth 100000 in
theorem kX0_dropBids (l : Launch) (G : va_G) (T : Nat → ClassId) (x1 x2 x3 : Nat) (N f g : Nat → Int32) (sz : Nat)  : Met l yX0_dropBids wsX0_dropBids ({ frames := 1, cells := 0, slots := 0, locals := 23 } : Room) (PX0_dropBids G T x1 x2 x3 N f g sz) (QX0_dropBids G T x1 x2 x3 N f g sz) 0 0 (va_A (cN T x1 x2 x3 N f g) sz) := by
  refine Met.ofW (cc := cX0_dropBids) (maxL := 1) (ret := none) (by decide) rfl ?_
  intro p e s m args below meth c s₁ B hml hv
  obtain ⟨rfl, hsz, hP, hK, hD0, hE⟩ := hv
  have hx := B.exec
  have hb := B.bytes
  have hr := B.returns
  have hts := atoms_spec (ws := wsX0_dropBids) B.pre
  have hown : s.vm.findClass RX0 = some m.cls := findClass_of_methodNamed B.named
  have hlocks := B.notSynchronized
  subst hsz
  have hD := hD0.self (sz := s.heap.size)
  have hA : ∀ q : Nat, s.heap.size ≤ q → (va_A (cN T x1 x2 x3 N f g) s.heap.size) q := fun q h => Or.inr h
  have hS : va_S (va_A (cN T x1 x2 x3 N f g) s.heap.size) s.heap s.heap [] := va_S.rf
  have hiRX0 : ∀ w ∈ u_ws RX0 TX0 11, w ∈ wsX0_dropBids := by decide +kernel
  have hl := lv_entry ([.ref x1]) (n := 1) (Nat.le_of_ble_eq_true rfl)
  rw [lg_entry_eq]
  generalize (lg_sl ([.ref x1]) ++ List.replicate (1 - (lg_sl ([.ref x1])).length) Slot.unset).toArray = ls at hl ⊢
  have hl : lv_has ls 1 [(0, .ref x1)] := hl
  have hP : va_P G vwCl (cN T x1 x2 x3 N f g) s.heap := hP
  refine lv_aload_n hx hb dX0_dropBids_0 rfl (lv_at hl 0 rfl) ?_
  refine va_get (D := G) (ci := 0) (v := .ref x2) (C := RX0) (T := TX0) (N := 11) hx hb hts hiRX0 hown hK hP 0 rfl rfl 9 (by decide) (hts (.fieldLink RX0 18 "NameAuction$Name" "amounts" "[I") (by decide +kernel)) (fun _ h9 => h9) rfl dX0_dropBids_1 ?_
  refine lv_iconst (v := 0) hx hb dX0_dropBids_4 (by decide) ?_
  refine gcv (va_runS (As := [.ref x2, .int 0]) (rest := []) ⟨hx, hb, hml, hown, hts⟩ (kJ7_fill_53178 l G T x2 6 f 0 _ (by decide)) (va_cwS 2 hts gX0_dropBids_J7_fill_53178 rfl rfl rfl (by decide +kernel) ⟨Nat.le_of_ble_eq_true rfl, Nat.le_of_ble_eq_true rfl⟩) ⟨gblind, gpre hE hK hP hD hS hA [1] rfl rfl⟩ rfl rfl hl.1 rfl (lv_room (Nat.le_of_ble_eq_true rfl)) dX0_dropBids_5 ⟨Nat.le_of_ble_eq_true rfl, Nat.le_of_ble_eq_true rfl⟩) hP hD hS hA [1] rfl rfl (fun H locs hw hP hD hS => ?_)
  have hP : va_P G vwCl (cN T x1 x2 x3 N (fun _ => 0) g) H := hP
  have hD : va_D (va_A (cN T x1 x2 x3 N f g) s.heap.size) (cN T x1 x2 x3 N (fun _ => 0) g) := hD
  exact W.vret hx hb hr (fun t ht9 hW => ⟨⟨(), rfl, trivial, gBi ht9 (gfin hP (rfl))⟩, hS.F ht9⟩) hS.2.2 dX0_dropBids_8
abbrev PX0_beginAuction (G : va_G) (T : Nat → ClassId) (x1 x2 x3 : Nat) (N f g : Nat → Int32) (p0 : Int32) (sz : Nat) : Array Value → State → Prop := gPc G T [.ref x1, .int p0] (cN T x1 x2 x3 N f g) sz
abbrev QX0_beginAuction (G : va_G) (T : Nat → ClassId) (x1 x2 x3 : Nat) (N f g : Nat → Int32) (p0 : Int32) (sz : Nat) : Array Value → State → Outcome → State → Prop := va_Qv (fun _ : Unit => True) (gB G (cN T x1 x2 x3 (upd (upd N 0 1) 2 (p0 + 5)) f g)) (va_A (cN T x1 x2 x3 N f g) sz)
set_option maxHeartbeats 4000000 in
set_option maxRecDepth 100000 in
theorem kX0_beginAuction (l : Launch) (G : va_G) (T : Nat → ClassId) (x1 x2 x3 : Nat) (N f g : Nat → Int32) (p0 : Int32) (sz : Nat)  : Met l yX0_beginAuction wsX0_beginAuction ({ frames := 0, cells := 0, slots := 0, locals := 0 } : Room) (PX0_beginAuction G T x1 x2 x3 N f g p0 sz) (QX0_beginAuction G T x1 x2 x3 N f g p0 sz) 0 0 (va_A (cN T x1 x2 x3 N f g) sz) := by
  refine Met.ofW (cc := cX0_beginAuction) (maxL := 2) (ret := none) (by decide) rfl ?_
  intro p e s m args below meth c s₁ B hml hv
  obtain ⟨rfl, hsz, hP, hK, hD0, hE⟩ := hv
  have hx := B.exec
  have hb := B.bytes
  have hr := B.returns
  have hts := atoms_spec (ws := wsX0_beginAuction) B.pre
  have hown : s.vm.findClass RX0 = some m.cls := findClass_of_methodNamed B.named
  have hlocks := B.notSynchronized
  subst hsz
  have hD := hD0.self (sz := s.heap.size)
  have hA : ∀ q : Nat, s.heap.size ≤ q → (va_A (cN T x1 x2 x3 N f g) s.heap.size) q := fun q h => Or.inr h
  have hS : va_S (va_A (cN T x1 x2 x3 N f g) s.heap.size) s.heap s.heap [] := va_S.rf
  have hiRX0 : ∀ w ∈ u_ws RX0 TX0 11, w ∈ wsX0_beginAuction := by decide +kernel
  have hl := lv_entry ([.ref x1, .int p0]) (n := 2) (Nat.le_of_ble_eq_true rfl)
  rw [lg_entry_eq]
  generalize (lg_sl ([.ref x1, .int p0]) ++ List.replicate (2 - (lg_sl ([.ref x1, .int p0])).length) Slot.unset).toArray = ls at hl ⊢
  have hl : lv_has ls 2 [(0, .ref x1), (1, .int p0)] := hl
  have hP : va_P G vwCl (cN T x1 x2 x3 N f g) s.heap := hP
  refine lv_aload_n hx hb dX0_beginAuction_0 rfl (lv_at hl 0 rfl) ?_
  refine lv_iconst (v := 1) hx hb dX0_beginAuction_1 (by decide) ?_
  refine va_put (D := G) (ci := 0) (v := .int 1) (ty := .int) (C := RX0) (T := TX0) (N := 11) hx hb hts hiRX0 tyX0 tyX0_ok nmX0 hown hK hP hD hS 0 rfl rfl 0 (by decide) (hts (.fieldLink RX0 9 "NameAuction$Name" "phase" "I") (by decide +kernel)) (fun _ h9 => h9) rfl (by decide +kernel) rfl rfl (Nat.le_of_ble_eq_true rfl) dX0_beginAuction_2 (fun H locs hP hD hS => ?_)
  have hP : va_P G vwCl (cN T x1 x2 x3 (upd N 0 1) f g) H := hP
  have hD : va_D (va_A (cN T x1 x2 x3 N f g) s.heap.size) (cN T x1 x2 x3 (upd N 0 1) f g) := hD
  refine lv_aload_n hx hb dX0_beginAuction_5 rfl (lv_at hl 0 rfl) ?_
  refine lv_iload_n hx hb dX0_beginAuction_6 rfl (lv_at hl 1 rfl) ?_
  refine lv_iconst (v := 5) hx hb dX0_beginAuction_7 (by decide) ?_
  refine lv_iadd hx hb dX0_beginAuction_8 ?_
  refine va_put (D := G) (ci := 0) (v := .int (p0 + 5)) (ty := .int) (C := RX0) (T := TX0) (N := 11) hx hb hts hiRX0 tyX0 tyX0_ok nmX0 hown hK hP hD hS 0 rfl rfl 2 (by decide) (hts (.fieldLink RX0 25 "NameAuction$Name" "closing" "I") (by decide +kernel)) (fun _ h9 => h9) rfl (by decide +kernel) rfl rfl (Nat.le_of_ble_eq_true rfl) dX0_beginAuction_9 (fun H locs hP hD hS => ?_)
  have hP : va_P G vwCl (cN T x1 x2 x3 (upd (upd N 0 1) 2 (p0 + 5)) f g) H := hP
  have hD : va_D (va_A (cN T x1 x2 x3 N f g) s.heap.size) (cN T x1 x2 x3 (upd (upd N 0 1) 2 (p0 + 5)) f g) := hD
  exact W.vret hx hb hr (fun t ht9 hW => ⟨⟨(), rfl, trivial, gBi ht9 (gfin hP (rfl))⟩, hS.F ht9⟩) hS.2.2 dX0_beginAuction_12
abbrev PX0_leaseTo (G : va_G) (T : Nat → ClassId) (x1 x2 x3 : Nat) (N f g : Nat → Int32) (p0 p1 : Int32) (sz : Nat) : Array Value → State → Prop := gPc G T [.ref x1, .int p0, .int p1] (cN T x1 x2 x3 N f g) sz
abbrev QX0_leaseTo (G : va_G) (T : Nat → ClassId) (x1 x2 x3 : Nat) (N f g : Nat → Int32) (p0 p1 : Int32) (sz : Nat) : Array Value → State → Outcome → State → Prop := va_Qv (fun _ : Unit => True) (gB G (cN T x1 x2 x3 (upd (upd (upd (upd (upd N 0 2) 1 p0) 3 (p1 + 100)) 4 0) 5 10) (fun _ => 0) g)) (va_A (cN T x1 x2 x3 N f g) sz)
set_option maxHeartbeats 4000000 in
set_option maxRecDepth 100000 in
theorem kX0_leaseTo (l : Launch) (G : va_G) (T : Nat → ClassId) (x1 x2 x3 : Nat) (N f g : Nat → Int32) (p0 p1 : Int32) (sz : Nat)  : Met l yX0_leaseTo wsX0_leaseTo ({ frames := 2, cells := 0, slots := 0, locals := 43 } : Room) (PX0_leaseTo G T x1 x2 x3 N f g p0 p1 sz) (QX0_leaseTo G T x1 x2 x3 N f g p0 p1 sz) 0 0 (va_A (cN T x1 x2 x3 N f g) sz) := by
  refine Met.ofW (cc := cX0_leaseTo) (maxL := 3) (ret := none) (by decide) rfl ?_
  intro p e s m args below meth c s₁ B hml hv
  obtain ⟨rfl, hsz, hP, hK, hD0, hE⟩ := hv
  have hx := B.exec
  have hb := B.bytes
  have hr := B.returns
  have hts := atoms_spec (ws := wsX0_leaseTo) B.pre
  have hown : s.vm.findClass RX0 = some m.cls := findClass_of_methodNamed B.named
  have hlocks := B.notSynchronized
  subst hsz
  have hD := hD0.self (sz := s.heap.size)
  have hA : ∀ q : Nat, s.heap.size ≤ q → (va_A (cN T x1 x2 x3 N f g) s.heap.size) q := fun q h => Or.inr h
  have hS : va_S (va_A (cN T x1 x2 x3 N f g) s.heap.size) s.heap s.heap [] := va_S.rf
  have hiRX0 : ∀ w ∈ u_ws RX0 TX0 11, w ∈ wsX0_leaseTo := by decide +kernel
  have hl := lv_entry ([.ref x1, .int p0, .int p1]) (n := 3) (Nat.le_of_ble_eq_true rfl)
  rw [lg_entry_eq]
  generalize (lg_sl ([.ref x1, .int p0, .int p1]) ++ List.replicate (3 - (lg_sl ([.ref x1, .int p0, .int p1])).length) Slot.unset).toArray = ls at hl ⊢
  have hl : lv_has ls 3 [(0, .ref x1), (1, .int p0), (2, .int p1)] := hl
  have hP : va_P G vwCl (cN T x1 x2 x3 N f g) s.heap := hP
  refine lv_aload_n hx hb dX0_leaseTo_0 rfl (lv_at hl 0 rfl) ?_
  refine gcv (va_runV (As := []) (rest := []) ⟨hx, hb, hml, hown, hts⟩ (kX0_dropBids l G T x1 x2 x3 N f g _) (cwV 0 hts gX0_leaseTo_X0_dropBids rfl rfl rfl (by decide +kernel) ⟨Nat.le_of_ble_eq_true rfl, Nat.le_of_ble_eq_true rfl⟩) ⟨gblind, va_recv hK hP (ci := 0) (q0 := 0) rfl rfl, gpre hE hK hP hD hS hA [0, 1, 2] rfl rfl⟩ rfl rfl hl.1 rfl (lv_room (Nat.le_of_ble_eq_true rfl)) dX0_leaseTo_1 ⟨Nat.le_of_ble_eq_true rfl, Nat.le_of_ble_eq_true rfl⟩) hP hD hS hA [0, 1, 2] rfl rfl (fun H locs hw hP hD hS => ?_)
  have hP : va_P G vwCl (cN T x1 x2 x3 N (fun _ => 0) g) H := hP
  have hD : va_D (va_A (cN T x1 x2 x3 N f g) s.heap.size) (cN T x1 x2 x3 N (fun _ => 0) g) := hD
  refine lv_aload_n hx hb dX0_leaseTo_4 rfl (lv_at hl 0 rfl) ?_
  refine lv_iconst (v := 2) hx hb dX0_leaseTo_5 (by decide) ?_
  refine va_put (D := G) (ci := 0) (v := .int 2) (ty := .int) (C := RX0) (T := TX0) (N := 11) hx hb hts hiRX0 tyX0 tyX0_ok nmX0 hown hK hP hD hS 0 rfl rfl 0 (by decide) (hts (.fieldLink RX0 9 "NameAuction$Name" "phase" "I") (by decide +kernel)) (fun _ h9 => h9) rfl (by decide +kernel) rfl rfl (Nat.le_of_ble_eq_true rfl) dX0_leaseTo_6 (fun H locs hP hD hS => ?_)
  have hP : va_P G vwCl (cN T x1 x2 x3 (upd N 0 2) (fun _ => 0) g) H := hP
  have hD : va_D (va_A (cN T x1 x2 x3 N f g) s.heap.size) (cN T x1 x2 x3 (upd N 0 2) (fun _ => 0) g) := hD
  refine lv_aload_n hx hb dX0_leaseTo_9 rfl (lv_at hl 0 rfl) ?_
  refine lv_iload_n hx hb dX0_leaseTo_10 rfl (lv_at hl 1 rfl) ?_
  refine va_put (D := G) (ci := 0) (v := .int p0) (ty := .int) (C := RX0) (T := TX0) (N := 11) hx hb hts hiRX0 tyX0 tyX0_ok nmX0 hown hK hP hD hS 0 rfl rfl 1 (by decide) (hts (.fieldLink RX0 15 "NameAuction$Name" "holder" "I") (by decide +kernel)) (fun _ h9 => h9) rfl (by decide +kernel) rfl rfl (Nat.le_of_ble_eq_true rfl) dX0_leaseTo_11 (fun H locs hP hD hS => ?_)
  have hP : va_P G vwCl (cN T x1 x2 x3 (upd (upd N 0 2) 1 p0) (fun _ => 0) g) H := hP
  have hD : va_D (va_A (cN T x1 x2 x3 N f g) s.heap.size) (cN T x1 x2 x3 (upd (upd N 0 2) 1 p0) (fun _ => 0) g) := hD
  refine lv_aload_n hx hb dX0_leaseTo_14 rfl (lv_at hl 0 rfl) ?_
  refine lv_iload_n hx hb dX0_leaseTo_15 rfl (lv_at hl 2 rfl) ?_
  refine lv_bipush (v := 100) hx hb dX0_leaseTo_16 (by decide) ?_
  refine lv_iadd hx hb dX0_leaseTo_18 ?_
  refine va_put (D := G) (ci := 0) (v := .int (p1 + 100)) (ty := .int) (C := RX0) (T := TX0) (N := 11) hx hb hts hiRX0 tyX0 tyX0_ok nmX0 hown hK hP hD hS 0 rfl rfl 3 (by decide) (hts (.fieldLink RX0 31 "NameAuction$Name" "end" "I") (by decide +kernel)) (fun _ h9 => h9) rfl (by decide +kernel) rfl rfl (Nat.le_of_ble_eq_true rfl) dX0_leaseTo_19 (fun H locs hP hD hS => ?_)
  have hP : va_P G vwCl (cN T x1 x2 x3 (upd (upd (upd N 0 2) 1 p0) 3 (p1 + 100)) (fun _ => 0) g) H := hP
  have hD : va_D (va_A (cN T x1 x2 x3 N f g) s.heap.size) (cN T x1 x2 x3 (upd (upd (upd N 0 2) 1 p0) 3 (p1 + 100)) (fun _ => 0) g) := hD
  refine lv_aload_n hx hb dX0_leaseTo_22 rfl (lv_at hl 0 rfl) ?_
  refine lv_iconst (v := 0) hx hb dX0_leaseTo_23 (by decide) ?_
  refine va_put (D := G) (ci := 0) (v := .int 0) (ty := .int) (C := RX0) (T := TX0) (N := 11) hx hb hts hiRX0 tyX0 tyX0_ok nmX0 hown hK hP hD hS 0 rfl rfl 4 (by decide) (hts (.fieldLink RX0 34 "NameAuction$Name" "record" "I") (by decide +kernel)) (fun _ h9 => h9) rfl (by decide +kernel) rfl rfl (Nat.le_of_ble_eq_true rfl) dX0_leaseTo_24 (fun H locs hP hD hS => ?_)
  have hP : va_P G vwCl (cN T x1 x2 x3 (upd (upd (upd (upd N 0 2) 1 p0) 3 (p1 + 100)) 4 0) (fun _ => 0) g) H := hP
  have hD : va_D (va_A (cN T x1 x2 x3 N f g) s.heap.size) (cN T x1 x2 x3 (upd (upd (upd (upd N 0 2) 1 p0) 3 (p1 + 100)) 4 0) (fun _ => 0) g) := hD
  refine lv_aload_n hx hb dX0_leaseTo_27 rfl (lv_at hl 0 rfl) ?_
  refine lv_bipush (v := 10) hx hb dX0_leaseTo_28 (by decide) ?_
  refine va_put (D := G) (ci := 0) (v := .int 10) (ty := .int) (C := RX0) (T := TX0) (N := 11) hx hb hts hiRX0 tyX0 tyX0_ok nmX0 hown hK hP hD hS 0 rfl rfl 5 (by decide) (hts (.fieldLink RX0 37 "NameAuction$Name" "lifetime" "I") (by decide +kernel)) (fun _ h9 => h9) rfl (by decide +kernel) rfl rfl (Nat.le_of_ble_eq_true rfl) dX0_leaseTo_30 (fun H locs hP hD hS => ?_)
  have hP : va_P G vwCl (cN T x1 x2 x3 (upd (upd (upd (upd (upd N 0 2) 1 p0) 3 (p1 + 100)) 4 0) 5 10) (fun _ => 0) g) H := hP
  have hD : va_D (va_A (cN T x1 x2 x3 N f g) s.heap.size) (cN T x1 x2 x3 (upd (upd (upd (upd (upd N 0 2) 1 p0) 3 (p1 + 100)) 4 0) 5 10) (fun _ => 0) g) := hD
  exact W.vret hx hb hr (fun t ht9 hW => ⟨⟨(), rfl, trivial, gBi ht9 (gfin hP (rfl))⟩, hS.F ht9⟩) hS.2.2 dX0_leaseTo_33
abbrev PX0_release (G : va_G) (T : Nat → ClassId) (x1 x2 x3 : Nat) (N f g : Nat → Int32) (sz : Nat) : Array Value → State → Prop := gPc G T [.ref x1] (cN T x1 x2 x3 N f g) sz
abbrev QX0_release (G : va_G) (T : Nat → ClassId) (x1 x2 x3 : Nat) (N f g : Nat → Int32) (sz : Nat) : Array Value → State → Outcome → State → Prop := va_Qv (fun _ : Unit => True) (gB G (cN T x1 x2 x3 (upd (upd N 0 0) 1 (-1)) (fun _ => 0) g)) (va_A (cN T x1 x2 x3 N f g) sz)
set_option maxHeartbeats 4000000 in
set_option maxRecDepth 100000 in
theorem kX0_release (l : Launch) (G : va_G) (T : Nat → ClassId) (x1 x2 x3 : Nat) (N f g : Nat → Int32) (sz : Nat)  : Met l yX0_release wsX0_release ({ frames := 2, cells := 0, slots := 0, locals := 43 } : Room) (PX0_release G T x1 x2 x3 N f g sz) (QX0_release G T x1 x2 x3 N f g sz) 0 0 (va_A (cN T x1 x2 x3 N f g) sz) := by
  refine Met.ofW (cc := cX0_release) (maxL := 1) (ret := none) (by decide) rfl ?_
  intro p e s m args below meth c s₁ B hml hv
  obtain ⟨rfl, hsz, hP, hK, hD0, hE⟩ := hv
  have hx := B.exec
  have hb := B.bytes
  have hr := B.returns
  have hts := atoms_spec (ws := wsX0_release) B.pre
  have hown : s.vm.findClass RX0 = some m.cls := findClass_of_methodNamed B.named
  have hlocks := B.notSynchronized
  subst hsz
  have hD := hD0.self (sz := s.heap.size)
  have hA : ∀ q : Nat, s.heap.size ≤ q → (va_A (cN T x1 x2 x3 N f g) s.heap.size) q := fun q h => Or.inr h
  have hS : va_S (va_A (cN T x1 x2 x3 N f g) s.heap.size) s.heap s.heap [] := va_S.rf
  have hiRX0 : ∀ w ∈ u_ws RX0 TX0 11, w ∈ wsX0_release := by decide +kernel
  have hl := lv_entry ([.ref x1]) (n := 1) (Nat.le_of_ble_eq_true rfl)
  rw [lg_entry_eq]
  generalize (lg_sl ([.ref x1]) ++ List.replicate (1 - (lg_sl ([.ref x1])).length) Slot.unset).toArray = ls at hl ⊢
  have hl : lv_has ls 1 [(0, .ref x1)] := hl
  have hP : va_P G vwCl (cN T x1 x2 x3 N f g) s.heap := hP
  refine lv_aload_n hx hb dX0_release_0 rfl (lv_at hl 0 rfl) ?_
  refine gcv (va_runV (As := []) (rest := []) ⟨hx, hb, hml, hown, hts⟩ (kX0_dropBids l G T x1 x2 x3 N f g _) (cwV 0 hts gX0_release_X0_dropBids rfl rfl rfl (by decide +kernel) ⟨Nat.le_of_ble_eq_true rfl, Nat.le_of_ble_eq_true rfl⟩) ⟨gblind, va_recv hK hP (ci := 0) (q0 := 0) rfl rfl, gpre hE hK hP hD hS hA [0, 1, 2] rfl rfl⟩ rfl rfl hl.1 rfl (lv_room (Nat.le_of_ble_eq_true rfl)) dX0_release_1 ⟨Nat.le_of_ble_eq_true rfl, Nat.le_of_ble_eq_true rfl⟩) hP hD hS hA [0, 1, 2] rfl rfl (fun H locs hw hP hD hS => ?_)
  have hP : va_P G vwCl (cN T x1 x2 x3 N (fun _ => 0) g) H := hP
  have hD : va_D (va_A (cN T x1 x2 x3 N f g) s.heap.size) (cN T x1 x2 x3 N (fun _ => 0) g) := hD
  refine lv_aload_n hx hb dX0_release_4 rfl (lv_at hl 0 rfl) ?_
  refine lv_iconst (v := 0) hx hb dX0_release_5 (by decide) ?_
  refine va_put (D := G) (ci := 0) (v := .int 0) (ty := .int) (C := RX0) (T := TX0) (N := 11) hx hb hts hiRX0 tyX0 tyX0_ok nmX0 hown hK hP hD hS 0 rfl rfl 0 (by decide) (hts (.fieldLink RX0 9 "NameAuction$Name" "phase" "I") (by decide +kernel)) (fun _ h9 => h9) rfl (by decide +kernel) rfl rfl (Nat.le_of_ble_eq_true rfl) dX0_release_6 (fun H locs hP hD hS => ?_)
  have hP : va_P G vwCl (cN T x1 x2 x3 (upd N 0 0) (fun _ => 0) g) H := hP
  have hD : va_D (va_A (cN T x1 x2 x3 N f g) s.heap.size) (cN T x1 x2 x3 (upd N 0 0) (fun _ => 0) g) := hD
  refine lv_aload_n hx hb dX0_release_9 rfl (lv_at hl 0 rfl) ?_
  refine lv_iconst (v := (-1)) hx hb dX0_release_10 (by decide) ?_
  refine va_put (D := G) (ci := 0) (v := .int (-1)) (ty := .int) (C := RX0) (T := TX0) (N := 11) hx hb hts hiRX0 tyX0 tyX0_ok nmX0 hown hK hP hD hS 0 rfl rfl 1 (by decide) (hts (.fieldLink RX0 15 "NameAuction$Name" "holder" "I") (by decide +kernel)) (fun _ h9 => h9) rfl (by decide +kernel) rfl rfl (Nat.le_of_ble_eq_true rfl) dX0_release_11 (fun H locs hP hD hS => ?_)
  have hP : va_P G vwCl (cN T x1 x2 x3 (upd (upd N 0 0) 1 (-1)) (fun _ => 0) g) H := hP
  have hD : va_D (va_A (cN T x1 x2 x3 N f g) s.heap.size) (cN T x1 x2 x3 (upd (upd N 0 0) 1 (-1)) (fun _ => 0) g) := hD
  exact W.vret hx hb hr (fun t ht9 hW => ⟨⟨(), rfl, trivial, gBi ht9 (gfin hP (rfl))⟩, hS.F ht9⟩) hS.2.2 dX0_release_14
/-- a name goes on: its ints, its amounts -/
def sGoOn (N : Nat → Int32) : Nat → Int32 := if N 0 = 2 then upd N 0 3 else if N 0 = 3 then upd N 0 4 else upd (upd N 0 0) 1 (-1)
def sGoOnF (N f : Nat → Int32) : Nat → Int32 := if N 0 = 2 then f else if N 0 = 3 then f else (fun _ => 0)
def sDay (N : Nat → Int32) : Int32 := if N 0 = 1 then N 2 else if N 0 = 2 then N 3 else if N 0 = 3 then N 3 + 10 else if N 0 = 4 then N 3 + 10 + 10 else -1
def sThaw (N : Nat → Int32) (b t : Int32) : Nat → Int32 := if N 6 = 1 then (if b = 0 then upd (upd N 0 0) 1 (-1) else upd (upd (upd (upd (upd N 0 2) 1 (N 7)) 3 (t + 100)) 4 0) 5 10) else upd (upd (upd N 0 (N 6)) 3 (N 3 + (t - N 8))) 1 (if b = 0 then N 1 else N 7)
def sThawF (N f : Nat → Int32) : Nat → Int32 := if N 6 = 1 then (fun _ => 0) else f
def sAhead (f g : Nat → Int32) (i j : Nat) : Int32 := if f i = f j then bI (decide (g i < g j)) else bI (decide (f j < f i))
def sHeld (x : Int32) : Int32 := bI (decide (x = 2 ∨ x = 3))
def sRec (N : Nat → Int32) : Int32 := sHeld (if N 0 = 5 then N 6 else N 0)
def sAns (N : Nat → Int32) : Int32 := if sRec N = 0 then -1 else N 4
def sLife (N : Nat → Int32) : Int32 := if sRec N = 0 then 5 else N 5
def sCnt (f : Nat → Int32) : Nat → Int32 | 0 => 0 | i + 1 => sCnt f i + (if 0 < f i then 1 else 0)
theorem bI_ok (b : Bool) : narrow .boolean (.int (bI b)) = .int (bI b) := by cases b <;> rfl
theorem bI_nar (b : Bool) : vp_nar .boolean (bI b) = bI b := by cases b <;> rfl
abbrev PX0_goOn (G : va_G) (T : Nat → ClassId) (x1 x2 x3 : Nat) (N f g : Nat → Int32) (sz : Nat) : Array Value → State → Prop := gPc G T [.ref x1] (cN T x1 x2 x3 N f g) sz
abbrev QX0_goOn (G : va_G) (T : Nat → ClassId) (x1 x2 x3 : Nat) (N f g : Nat → Int32) (sz : Nat) : Array Value → State → Outcome → State → Prop := va_Qv (fun _ : Unit => True) (gB G (cN T x1 x2 x3 (sGoOn N) (sGoOnF N f) g)) (va_A (cN T x1 x2 x3 N f g) sz)
set_option maxHeartbeats 4000000 in
set_option maxRecDepth 100000 in
theorem kX0_goOn (l : Launch) (G : va_G) (T : Nat → ClassId) (x1 x2 x3 : Nat) (N f g : Nat → Int32) (sz : Nat)  : Met l yX0_goOn wsX0_goOn ({ frames := 3, cells := 0, slots := 0, locals := 63 } : Room) (PX0_goOn G T x1 x2 x3 N f g sz) (QX0_goOn G T x1 x2 x3 N f g sz) 0 0 (va_A (cN T x1 x2 x3 N f g) sz) := by
  refine Met.ofW (cc := cX0_goOn) (maxL := 1) (ret := none) (by decide) rfl ?_
  intro p e s m args below meth c s₁ B hml hv
  obtain ⟨rfl, hsz, hP, hK, hD0, hE⟩ := hv
  have hx := B.exec
  have hb := B.bytes
  have hr := B.returns
  have hts := atoms_spec (ws := wsX0_goOn) B.pre
  have hown : s.vm.findClass RX0 = some m.cls := findClass_of_methodNamed B.named
  have hlocks := B.notSynchronized
  subst hsz
  have hD := hD0.self (sz := s.heap.size)
  have hA : ∀ q : Nat, s.heap.size ≤ q → (va_A (cN T x1 x2 x3 N f g) s.heap.size) q := fun q h => Or.inr h
  have hS : va_S (va_A (cN T x1 x2 x3 N f g) s.heap.size) s.heap s.heap [] := va_S.rf
  have hiRX0 : ∀ w ∈ u_ws RX0 TX0 11, w ∈ wsX0_goOn := by decide +kernel
  have hl := lv_entry ([.ref x1]) (n := 1) (Nat.le_of_ble_eq_true rfl)
  rw [lg_entry_eq]
  generalize (lg_sl ([.ref x1]) ++ List.replicate (1 - (lg_sl ([.ref x1])).length) Slot.unset).toArray = ls at hl ⊢
  have hl : lv_has ls 1 [(0, .ref x1)] := hl
  have hP : va_P G vwCl (cN T x1 x2 x3 N f g) s.heap := hP
  refine lv_aload_n hx hb dX0_goOn_0 rfl (lv_at hl 0 rfl) ?_
  refine va_get (D := G) (ci := 0) (v := .int (N 0)) (C := RX0) (T := TX0) (N := 11) hx hb hts hiRX0 hown hK hP 0 rfl rfl 0 (by decide) (hts (.fieldLink RX0 9 "NameAuction$Name" "phase" "I") (by decide +kernel)) (fun _ h9 => h9) rfl dX0_goOn_1 ?_
  refine lv_iconst (v := 2) hx hb dX0_goOn_4 (by decide) ?_
  refine lv_icmp_ne (tgt := 16) hx hb dX0_goOn_5 (by decide) (fun c5 => ?_) (fun c5 => ?_)
  · skip
    refine lv_aload_n hx hb dX0_goOn_16 rfl (lv_at hl 0 rfl) ?_
    refine va_get (D := G) (ci := 0) (v := .int (N 0)) (C := RX0) (T := TX0) (N := 11) hx hb hts hiRX0 hown hK hP 0 rfl rfl 0 (by decide) (hts (.fieldLink RX0 9 "NameAuction$Name" "phase" "I") (by decide +kernel)) (fun _ h9 => h9) rfl dX0_goOn_17 ?_
    refine lv_iconst (v := 3) hx hb dX0_goOn_20 (by decide) ?_
    refine lv_icmp_ne (tgt := 32) hx hb dX0_goOn_21 (by decide) (fun c21 => ?_) (fun c21 => ?_)
    · skip
      refine lv_aload_n hx hb dX0_goOn_32 rfl (lv_at hl 0 rfl) ?_
      refine gcv (va_runV (As := []) (rest := []) ⟨hx, hb, hml, hown, hts⟩ (kX0_release l G T x1 x2 x3 N f g _) (cwV 0 hts gX0_goOn_X0_release rfl rfl rfl (by decide +kernel) ⟨Nat.le_of_ble_eq_true rfl, Nat.le_of_ble_eq_true rfl⟩) ⟨gblind, va_recv hK hP (ci := 0) (q0 := 0) rfl rfl, gpre hE hK hP hD hS hA [0, 1, 2] rfl rfl⟩ rfl rfl hl.1 rfl (lv_room (Nat.le_of_ble_eq_true rfl)) dX0_goOn_33 ⟨Nat.le_of_ble_eq_true rfl, Nat.le_of_ble_eq_true rfl⟩) hP hD hS hA [0, 1, 2] rfl rfl (fun H locs hw hP hD hS => ?_)
      have hP : va_P G vwCl (cN T x1 x2 x3 (upd (upd N 0 0) 1 (-1)) (fun _ => 0) g) H := hP
      have hD : va_D (va_A (cN T x1 x2 x3 N f g) s.heap.size) (cN T x1 x2 x3 (upd (upd N 0 0) 1 (-1)) (fun _ => 0) g) := hD
      exact W.vret hx hb hr (fun t ht9 hW => ⟨⟨(), rfl, trivial, gBi ht9 (gfin hP (by simp only [sGoOn, sGoOnF]; simp [*]))⟩, hS.F ht9⟩) hS.2.2 dX0_goOn_36
    · skip
      refine lv_aload_n hx hb dX0_goOn_24 rfl (lv_at hl 0 rfl) ?_
      refine lv_iconst (v := 4) hx hb dX0_goOn_25 (by decide) ?_
      refine va_put (D := G) (ci := 0) (v := .int 4) (ty := .int) (C := RX0) (T := TX0) (N := 11) hx hb hts hiRX0 tyX0 tyX0_ok nmX0 hown hK hP hD hS 0 rfl rfl 0 (by decide) (hts (.fieldLink RX0 9 "NameAuction$Name" "phase" "I") (by decide +kernel)) (fun _ h9 => h9) rfl (by decide +kernel) rfl rfl (Nat.le_of_ble_eq_true rfl) dX0_goOn_26 (fun H locs hP hD hS => ?_)
      have hP : va_P G vwCl (cN T x1 x2 x3 (upd N 0 4) f g) H := hP
      have hD : va_D (va_A (cN T x1 x2 x3 N f g) s.heap.size) (cN T x1 x2 x3 (upd N 0 4) f g) := hD
      refine lv_goto (tgt := 36) hx hb dX0_goOn_29 (by decide) ?_
      exact W.vret hx hb hr (fun t ht9 hW => ⟨⟨(), rfl, trivial, gBi ht9 (gfin hP (by simp only [sGoOn, sGoOnF]; simp [*]))⟩, hS.F ht9⟩) hS.2.2 dX0_goOn_36
  · skip
    refine lv_aload_n hx hb dX0_goOn_8 rfl (lv_at hl 0 rfl) ?_
    refine lv_iconst (v := 3) hx hb dX0_goOn_9 (by decide) ?_
    refine va_put (D := G) (ci := 0) (v := .int 3) (ty := .int) (C := RX0) (T := TX0) (N := 11) hx hb hts hiRX0 tyX0 tyX0_ok nmX0 hown hK hP hD hS 0 rfl rfl 0 (by decide) (hts (.fieldLink RX0 9 "NameAuction$Name" "phase" "I") (by decide +kernel)) (fun _ h9 => h9) rfl (by decide +kernel) rfl rfl (Nat.le_of_ble_eq_true rfl) dX0_goOn_10 (fun H locs hP hD hS => ?_)
    have hP : va_P G vwCl (cN T x1 x2 x3 (upd N 0 3) f g) H := hP
    have hD : va_D (va_A (cN T x1 x2 x3 N f g) s.heap.size) (cN T x1 x2 x3 (upd N 0 3) f g) := hD
    refine lv_goto (tgt := 36) hx hb dX0_goOn_13 (by decide) ?_
    exact W.vret hx hb hr (fun t ht9 hW => ⟨⟨(), rfl, trivial, gBi ht9 (gfin hP (by simp only [sGoOn, sGoOnF]; simp [*]))⟩, hS.F ht9⟩) hS.2.2 dX0_goOn_36
abbrev PX0_dayOfChange (G : va_G) (T : Nat → ClassId) (x1 x2 x3 : Nat) (N f g : Nat → Int32) (sz : Nat) : Array Value → State → Prop := gPc G T [.ref x1] (cN T x1 x2 x3 N f g) sz
abbrev QX0_dayOfChange (G : va_G) (T : Nat → ClassId) (x1 x2 x3 : Nat) (N f g : Nat → Int32) (sz : Nat) : Array Value → State → Outcome → State → Prop := va_Qi (fun (r : Int32) (_ : Unit) => r = sDay N) (gB G (cN T x1 x2 x3 N f g)) (va_A (cN T x1 x2 x3 N f g) sz)
set_option maxHeartbeats 4000000 in
set_option maxRecDepth 100000 in
theorem kX0_dayOfChange (l : Launch) (G : va_G) (T : Nat → ClassId) (x1 x2 x3 : Nat) (N f g : Nat → Int32) (sz : Nat)  : Met l yX0_dayOfChange wsX0_dayOfChange ({ frames := 0, cells := 0, slots := 0, locals := 0 } : Room) (PX0_dayOfChange G T x1 x2 x3 N f g sz) (QX0_dayOfChange G T x1 x2 x3 N f g sz) 0 0 (va_A (cN T x1 x2 x3 N f g) sz) := by
  refine Met.ofW (cc := cX0_dayOfChange) (maxL := 1) (ret := (some .int)) (by decide) rfl ?_
  intro p e s m args below meth c s₁ B hml hv
  obtain ⟨rfl, hsz, hP, hK, hD0, hE⟩ := hv
  have hx := B.exec
  have hb := B.bytes
  have hr := B.returns
  have hts := atoms_spec (ws := wsX0_dayOfChange) B.pre
  have hown : s.vm.findClass RX0 = some m.cls := findClass_of_methodNamed B.named
  have hlocks := B.notSynchronized
  subst hsz
  have hD := hD0.self (sz := s.heap.size)
  have hA : ∀ q : Nat, s.heap.size ≤ q → (va_A (cN T x1 x2 x3 N f g) s.heap.size) q := fun q h => Or.inr h
  have hS : va_S (va_A (cN T x1 x2 x3 N f g) s.heap.size) s.heap s.heap [] := va_S.rf
  have hiRX0 : ∀ w ∈ u_ws RX0 TX0 11, w ∈ wsX0_dayOfChange := by decide +kernel
  have hl := lv_entry ([.ref x1]) (n := 1) (Nat.le_of_ble_eq_true rfl)
  rw [lg_entry_eq]
  generalize (lg_sl ([.ref x1]) ++ List.replicate (1 - (lg_sl ([.ref x1])).length) Slot.unset).toArray = ls at hl ⊢
  have hl : lv_has ls 1 [(0, .ref x1)] := hl
  have hP : va_P G vwCl (cN T x1 x2 x3 N f g) s.heap := hP
  refine lv_aload_n hx hb dX0_dayOfChange_0 rfl (lv_at hl 0 rfl) ?_
  refine va_get (D := G) (ci := 0) (v := .int (N 0)) (C := RX0) (T := TX0) (N := 11) hx hb hts hiRX0 hown hK hP 0 rfl rfl 0 (by decide) (hts (.fieldLink RX0 9 "NameAuction$Name" "phase" "I") (by decide +kernel)) (fun _ h9 => h9) rfl dX0_dayOfChange_1 ?_
  by_cases c4_1 : N 0 = 1
  · skip
    refine lv_tableIn (off := 32) (tgt := 36) hx hb dX0_dayOfChange_4 (by rw [c4_1]; decide) (by rw [c4_1]; decide) (by rw [c4_1]; decide) (by decide) ?_
    refine lv_aload_n hx hb dX0_dayOfChange_36 rfl (lv_at hl 0 rfl) ?_
    refine va_get (D := G) (ci := 0) (v := .int (N 2)) (C := RX0) (T := TX0) (N := 11) hx hb hts hiRX0 hown hK hP 0 rfl rfl 2 (by decide) (hts (.fieldLink RX0 25 "NameAuction$Name" "closing" "I") (by decide +kernel)) (fun _ h9 => h9) rfl dX0_dayOfChange_37 ?_
    exact W.iret (v := N 2) hx hb hr (fun t ht9 hW => ⟨⟨N 2, (), rfl, by simp [sDay, *], gBi ht9 (gfin hP (rfl))⟩, hS.F ht9⟩) hS.2.2 dX0_dayOfChange_40
  · skip
    by_cases c4_2 : N 0 = 2
    · skip
      refine lv_tableIn (off := 37) (tgt := 41) hx hb dX0_dayOfChange_4 (by rw [c4_2]; decide) (by rw [c4_2]; decide) (by rw [c4_2]; decide) (by decide) ?_
      refine lv_aload_n hx hb dX0_dayOfChange_41 rfl (lv_at hl 0 rfl) ?_
      refine va_get (D := G) (ci := 0) (v := .int (N 3)) (C := RX0) (T := TX0) (N := 11) hx hb hts hiRX0 hown hK hP 0 rfl rfl 3 (by decide) (hts (.fieldLink RX0 31 "NameAuction$Name" "end" "I") (by decide +kernel)) (fun _ h9 => h9) rfl dX0_dayOfChange_42 ?_
      exact W.iret (v := N 3) hx hb hr (fun t ht9 hW => ⟨⟨N 3, (), rfl, by simp [sDay, *], gBi ht9 (gfin hP (rfl))⟩, hS.F ht9⟩) hS.2.2 dX0_dayOfChange_45
    · skip
      by_cases c4_3 : N 0 = 3
      · skip
        refine lv_tableIn (off := 42) (tgt := 46) hx hb dX0_dayOfChange_4 (by rw [c4_3]; decide) (by rw [c4_3]; decide) (by rw [c4_3]; decide) (by decide) ?_
        refine lv_aload_n hx hb dX0_dayOfChange_46 rfl (lv_at hl 0 rfl) ?_
        refine va_get (D := G) (ci := 0) (v := .int (N 3)) (C := RX0) (T := TX0) (N := 11) hx hb hts hiRX0 hown hK hP 0 rfl rfl 3 (by decide) (hts (.fieldLink RX0 31 "NameAuction$Name" "end" "I") (by decide +kernel)) (fun _ h9 => h9) rfl dX0_dayOfChange_47 ?_
        refine lv_bipush (v := 10) hx hb dX0_dayOfChange_50 (by decide) ?_
        refine lv_iadd hx hb dX0_dayOfChange_52 ?_
        exact W.iret (v := (N 3) + 10) hx hb hr (fun t ht9 hW => ⟨⟨(N 3) + 10, (), rfl, by simp [sDay, *], gBi ht9 (gfin hP (rfl))⟩, hS.F ht9⟩) hS.2.2 dX0_dayOfChange_53
      · skip
        by_cases c4_4 : N 0 = 4
        · skip
          refine lv_tableIn (off := 50) (tgt := 54) hx hb dX0_dayOfChange_4 (by rw [c4_4]; decide) (by rw [c4_4]; decide) (by rw [c4_4]; decide) (by decide) ?_
          refine lv_aload_n hx hb dX0_dayOfChange_54 rfl (lv_at hl 0 rfl) ?_
          refine va_get (D := G) (ci := 0) (v := .int (N 3)) (C := RX0) (T := TX0) (N := 11) hx hb hts hiRX0 hown hK hP 0 rfl rfl 3 (by decide) (hts (.fieldLink RX0 31 "NameAuction$Name" "end" "I") (by decide +kernel)) (fun _ h9 => h9) rfl dX0_dayOfChange_55 ?_
          refine lv_bipush (v := 10) hx hb dX0_dayOfChange_58 (by decide) ?_
          refine lv_iadd hx hb dX0_dayOfChange_60 ?_
          refine lv_bipush (v := 10) hx hb dX0_dayOfChange_61 (by decide) ?_
          refine lv_iadd hx hb dX0_dayOfChange_63 ?_
          exact W.iret (v := ((N 3) + 10) + 10) hx hb hr (fun t ht9 hW => ⟨⟨((N 3) + 10) + 10, (), rfl, by simp [sDay, *], gBi ht9 (gfin hP (rfl))⟩, hS.F ht9⟩) hS.2.2 dX0_dayOfChange_64
        · skip
          have e4_1 : (N 0).toInt ≠ 1 := fun z => c4_1 (Int32.toInt_inj.mp z)
          have e4_2 : (N 0).toInt ≠ 2 := fun z => c4_2 (Int32.toInt_inj.mp z)
          have e4_3 : (N 0).toInt ≠ 3 := fun z => c4_3 (Int32.toInt_inj.mp z)
          have e4_4 : (N 0).toInt ≠ 4 := fun z => c4_4 (Int32.toInt_inj.mp z)
          refine lv_tableOut (tgt := 65) hx hb dX0_dayOfChange_4 (by omega) (by decide) ?_
          refine lv_iconst (v := (-1)) hx hb dX0_dayOfChange_65 (by decide) ?_
          exact W.iret (v := (-1)) hx hb hr (fun t ht9 hW => ⟨⟨(-1), (), rfl, by simp [sDay, *], gBi ht9 (gfin hP (rfl))⟩, hS.F ht9⟩) hS.2.2 dX0_dayOfChange_66
abbrev PX0_freeze (G : va_G) (T : Nat → ClassId) (x1 x2 x3 : Nat) (N f g : Nat → Int32) (p0 p1 : Int32) (sz : Nat) : Array Value → State → Prop := gPc G T [.ref x1, .int p0, .int p1] (cN T x1 x2 x3 N f g) sz
abbrev QX0_freeze (G : va_G) (T : Nat → ClassId) (x1 x2 x3 : Nat) (N f g : Nat → Int32) (p0 p1 : Int32) (sz : Nat) : Array Value → State → Outcome → State → Prop := va_Qv (fun _ : Unit => True) (gB G (cN T x1 x2 x3 (upd (upd (upd (upd N 6 (N 0)) 0 5) 7 p0) 8 p1) (fun _ => 0) g)) (va_A (cN T x1 x2 x3 N f g) sz)
set_option maxHeartbeats 4000000 in
set_option maxRecDepth 100000 in
theorem kX0_freeze (l : Launch) (G : va_G) (T : Nat → ClassId) (x1 x2 x3 : Nat) (N f g : Nat → Int32) (p0 p1 : Int32) (sz : Nat)  : Met l yX0_freeze wsX0_freeze ({ frames := 2, cells := 0, slots := 0, locals := 43 } : Room) (PX0_freeze G T x1 x2 x3 N f g p0 p1 sz) (QX0_freeze G T x1 x2 x3 N f g p0 p1 sz) 0 0 (va_A (cN T x1 x2 x3 N f g) sz) := by
  refine Met.ofW (cc := cX0_freeze) (maxL := 3) (ret := none) (by decide) rfl ?_
  intro p e s m args below meth c s₁ B hml hv
  obtain ⟨rfl, hsz, hP, hK, hD0, hE⟩ := hv
  have hx := B.exec
  have hb := B.bytes
  have hr := B.returns
  have hts := atoms_spec (ws := wsX0_freeze) B.pre
  have hown : s.vm.findClass RX0 = some m.cls := findClass_of_methodNamed B.named
  have hlocks := B.notSynchronized
  subst hsz
  have hD := hD0.self (sz := s.heap.size)
  have hA : ∀ q : Nat, s.heap.size ≤ q → (va_A (cN T x1 x2 x3 N f g) s.heap.size) q := fun q h => Or.inr h
  have hS : va_S (va_A (cN T x1 x2 x3 N f g) s.heap.size) s.heap s.heap [] := va_S.rf
  have hiRX0 : ∀ w ∈ u_ws RX0 TX0 11, w ∈ wsX0_freeze := by decide +kernel
  have hl := lv_entry ([.ref x1, .int p0, .int p1]) (n := 3) (Nat.le_of_ble_eq_true rfl)
  rw [lg_entry_eq]
  generalize (lg_sl ([.ref x1, .int p0, .int p1]) ++ List.replicate (3 - (lg_sl ([.ref x1, .int p0, .int p1])).length) Slot.unset).toArray = ls at hl ⊢
  have hl : lv_has ls 3 [(0, .ref x1), (1, .int p0), (2, .int p1)] := hl
  have hP : va_P G vwCl (cN T x1 x2 x3 N f g) s.heap := hP
  refine lv_aload_n hx hb dX0_freeze_0 rfl (lv_at hl 0 rfl) ?_
  refine gcv (va_runV (As := []) (rest := []) ⟨hx, hb, hml, hown, hts⟩ (kX0_dropBids l G T x1 x2 x3 N f g _) (cwV 0 hts gX0_freeze_X0_dropBids rfl rfl rfl (by decide +kernel) ⟨Nat.le_of_ble_eq_true rfl, Nat.le_of_ble_eq_true rfl⟩) ⟨gblind, va_recv hK hP (ci := 0) (q0 := 0) rfl rfl, gpre hE hK hP hD hS hA [0, 1, 2] rfl rfl⟩ rfl rfl hl.1 rfl (lv_room (Nat.le_of_ble_eq_true rfl)) dX0_freeze_1 ⟨Nat.le_of_ble_eq_true rfl, Nat.le_of_ble_eq_true rfl⟩) hP hD hS hA [0, 1, 2] rfl rfl (fun H locs hw hP hD hS => ?_)
  have hP : va_P G vwCl (cN T x1 x2 x3 N (fun _ => 0) g) H := hP
  have hD : va_D (va_A (cN T x1 x2 x3 N f g) s.heap.size) (cN T x1 x2 x3 N (fun _ => 0) g) := hD
  refine lv_aload_n hx hb dX0_freeze_4 rfl (lv_at hl 0 rfl) ?_
  refine lv_aload_n hx hb dX0_freeze_5 rfl (lv_at hl 0 rfl) ?_
  refine va_get (D := G) (ci := 0) (v := .int (N 0)) (C := RX0) (T := TX0) (N := 11) hx hb hts hiRX0 hown hK hP 0 rfl rfl 0 (by decide) (hts (.fieldLink RX0 9 "NameAuction$Name" "phase" "I") (by decide +kernel)) (fun _ h9 => h9) rfl dX0_freeze_6 ?_
  refine va_put (D := G) (ci := 0) (v := .int (N 0)) (ty := .int) (C := RX0) (T := TX0) (N := 11) hx hb hts hiRX0 tyX0 tyX0_ok nmX0 hown hK hP hD hS 0 rfl rfl 6 (by decide) (hts (.fieldLink RX0 43 "NameAuction$Name" "phaseBefore" "I") (by decide +kernel)) (fun _ h9 => h9) rfl (by decide +kernel) rfl rfl (Nat.le_of_ble_eq_true rfl) dX0_freeze_9 (fun H locs hP hD hS => ?_)
  have hP : va_P G vwCl (cN T x1 x2 x3 (upd N 6 (N 0)) (fun _ => 0) g) H := hP
  have hD : va_D (va_A (cN T x1 x2 x3 N f g) s.heap.size) (cN T x1 x2 x3 (upd N 6 (N 0)) (fun _ => 0) g) := hD
  refine lv_aload_n hx hb dX0_freeze_12 rfl (lv_at hl 0 rfl) ?_
  refine lv_iconst (v := 5) hx hb dX0_freeze_13 (by decide) ?_
  refine va_put (D := G) (ci := 0) (v := .int 5) (ty := .int) (C := RX0) (T := TX0) (N := 11) hx hb hts hiRX0 tyX0 tyX0_ok nmX0 hown hK hP hD hS 0 rfl rfl 0 (by decide) (hts (.fieldLink RX0 9 "NameAuction$Name" "phase" "I") (by decide +kernel)) (fun _ h9 => h9) rfl (by decide +kernel) rfl rfl (Nat.le_of_ble_eq_true rfl) dX0_freeze_14 (fun H locs hP hD hS => ?_)
  have hP : va_P G vwCl (cN T x1 x2 x3 (upd (upd N 6 (N 0)) 0 5) (fun _ => 0) g) H := hP
  have hD : va_D (va_A (cN T x1 x2 x3 N f g) s.heap.size) (cN T x1 x2 x3 (upd (upd N 6 (N 0)) 0 5) (fun _ => 0) g) := hD
  refine lv_aload_n hx hb dX0_freeze_17 rfl (lv_at hl 0 rfl) ?_
  refine lv_iload_n hx hb dX0_freeze_18 rfl (lv_at hl 1 rfl) ?_
  refine va_put (D := G) (ci := 0) (v := .int p0) (ty := .int) (C := RX0) (T := TX0) (N := 11) hx hb hts hiRX0 tyX0 tyX0_ok nmX0 hown hK hP hD hS 0 rfl rfl 7 (by decide) (hts (.fieldLink RX0 46 "NameAuction$Name" "challenger" "I") (by decide +kernel)) (fun _ h9 => h9) rfl (by decide +kernel) rfl rfl (Nat.le_of_ble_eq_true rfl) dX0_freeze_19 (fun H locs hP hD hS => ?_)
  have hP : va_P G vwCl (cN T x1 x2 x3 (upd (upd (upd N 6 (N 0)) 0 5) 7 p0) (fun _ => 0) g) H := hP
  have hD : va_D (va_A (cN T x1 x2 x3 N f g) s.heap.size) (cN T x1 x2 x3 (upd (upd (upd N 6 (N 0)) 0 5) 7 p0) (fun _ => 0) g) := hD
  refine lv_aload_n hx hb dX0_freeze_22 rfl (lv_at hl 0 rfl) ?_
  refine lv_iload_n hx hb dX0_freeze_23 rfl (lv_at hl 2 rfl) ?_
  refine va_put (D := G) (ci := 0) (v := .int p1) (ty := .int) (C := RX0) (T := TX0) (N := 11) hx hb hts hiRX0 tyX0 tyX0_ok nmX0 hown hK hP hD hS 0 rfl rfl 8 (by decide) (hts (.fieldLink RX0 49 "NameAuction$Name" "frozenOn" "I") (by decide +kernel)) (fun _ h9 => h9) rfl (by decide +kernel) rfl rfl (Nat.le_of_ble_eq_true rfl) dX0_freeze_24 (fun H locs hP hD hS => ?_)
  have hP : va_P G vwCl (cN T x1 x2 x3 (upd (upd (upd (upd N 6 (N 0)) 0 5) 7 p0) 8 p1) (fun _ => 0) g) H := hP
  have hD : va_D (va_A (cN T x1 x2 x3 N f g) s.heap.size) (cN T x1 x2 x3 (upd (upd (upd (upd N 6 (N 0)) 0 5) 7 p0) 8 p1) (fun _ => 0) g) := hD
  exact W.vret hx hb hr (fun t ht9 hW => ⟨⟨(), rfl, trivial, gBi ht9 (gfin hP (rfl))⟩, hS.F ht9⟩) hS.2.2 dX0_freeze_27
abbrev PX0_thaw (G : va_G) (T : Nat → ClassId) (x1 x2 x3 : Nat) (N f g : Nat → Int32) (p0 p1 : Int32) (sz : Nat) : Array Value → State → Prop := gPc G T [.ref x1, .int p0, .int p1] (cN T x1 x2 x3 N f g) sz
abbrev QX0_thaw (G : va_G) (T : Nat → ClassId) (x1 x2 x3 : Nat) (N f g : Nat → Int32) (p0 p1 : Int32) (sz : Nat) : Array Value → State → Outcome → State → Prop := va_Qv (fun _ : Unit => True) (gB G (cN T x1 x2 x3 (sThaw N p0 p1) (sThawF N f) g)) (va_A (cN T x1 x2 x3 N f g) sz)
set_option maxHeartbeats 4000000 in
set_option maxRecDepth 100000 in
theorem kX0_thaw (l : Launch) (G : va_G) (T : Nat → ClassId) (x1 x2 x3 : Nat) (N f g : Nat → Int32) (p0 p1 : Int32) (sz : Nat)  : Met l yX0_thaw wsX0_thaw ({ frames := 3, cells := 0, slots := 0, locals := 65 } : Room) (PX0_thaw G T x1 x2 x3 N f g p0 p1 sz) (QX0_thaw G T x1 x2 x3 N f g p0 p1 sz) 0 0 (va_A (cN T x1 x2 x3 N f g) sz) := by
  refine Met.ofW (cc := cX0_thaw) (maxL := 3) (ret := none) (by decide) rfl ?_
  intro p e s m args below meth c s₁ B hml hv
  obtain ⟨rfl, hsz, hP, hK, hD0, hE⟩ := hv
  have hx := B.exec
  have hb := B.bytes
  have hr := B.returns
  have hts := atoms_spec (ws := wsX0_thaw) B.pre
  have hown : s.vm.findClass RX0 = some m.cls := findClass_of_methodNamed B.named
  have hlocks := B.notSynchronized
  subst hsz
  have hD := hD0.self (sz := s.heap.size)
  have hA : ∀ q : Nat, s.heap.size ≤ q → (va_A (cN T x1 x2 x3 N f g) s.heap.size) q := fun q h => Or.inr h
  have hS : va_S (va_A (cN T x1 x2 x3 N f g) s.heap.size) s.heap s.heap [] := va_S.rf
  have hiRX0 : ∀ w ∈ u_ws RX0 TX0 11, w ∈ wsX0_thaw := by decide +kernel
  have hl := lv_entry ([.ref x1, .int p0, .int p1]) (n := 3) (Nat.le_of_ble_eq_true rfl)
  rw [lg_entry_eq]
  generalize (lg_sl ([.ref x1, .int p0, .int p1]) ++ List.replicate (3 - (lg_sl ([.ref x1, .int p0, .int p1])).length) Slot.unset).toArray = ls at hl ⊢
  have hl : lv_has ls 3 [(0, .ref x1), (1, .int p0), (2, .int p1)] := hl
  have hP : va_P G vwCl (cN T x1 x2 x3 N f g) s.heap := hP
  refine lv_aload_n hx hb dX0_thaw_0 rfl (lv_at hl 0 rfl) ?_
  refine va_get (D := G) (ci := 0) (v := .int (N 6)) (C := RX0) (T := TX0) (N := 11) hx hb hts hiRX0 hown hK hP 0 rfl rfl 6 (by decide) (hts (.fieldLink RX0 43 "NameAuction$Name" "phaseBefore" "I") (by decide +kernel)) (fun _ h9 => h9) rfl dX0_thaw_1 ?_
  refine lv_iconst (v := 1) hx hb dX0_thaw_4 (by decide) ?_
  refine lv_icmp_eq (tgt := 53) hx hb dX0_thaw_5 (by decide) (fun c5 => ?_) (fun c5 => ?_)
  · skip
    refine lv_iload_n hx hb dX0_thaw_53 rfl (lv_at hl 1 rfl) ?_
    refine lv_if_eq (tgt := 69) hx hb dX0_thaw_54 (by decide) (fun c54 => ?_) (fun c54 => ?_)
    · skip
      refine lv_aload_n hx hb dX0_thaw_69 rfl (lv_at hl 0 rfl) ?_
      refine gcv (va_runV (As := []) (rest := []) ⟨hx, hb, hml, hown, hts⟩ (kX0_release l G T x1 x2 x3 N f g _) (cwV 0 hts gX0_thaw_X0_release rfl rfl rfl (by decide +kernel) ⟨Nat.le_of_ble_eq_true rfl, Nat.le_of_ble_eq_true rfl⟩) ⟨gblind, va_recv hK hP (ci := 0) (q0 := 0) rfl rfl, gpre hE hK hP hD hS hA [0, 1, 2] rfl rfl⟩ rfl rfl hl.1 rfl (lv_room (Nat.le_of_ble_eq_true rfl)) dX0_thaw_70 ⟨Nat.le_of_ble_eq_true rfl, Nat.le_of_ble_eq_true rfl⟩) hP hD hS hA [0, 1, 2] rfl rfl (fun H locs hw hP hD hS => ?_)
      have hP : va_P G vwCl (cN T x1 x2 x3 (upd (upd N 0 0) 1 (-1)) (fun _ => 0) g) H := hP
      have hD : va_D (va_A (cN T x1 x2 x3 N f g) s.heap.size) (cN T x1 x2 x3 (upd (upd N 0 0) 1 (-1)) (fun _ => 0) g) := hD
      exact W.vret hx hb hr (fun t ht9 hW => ⟨⟨(), rfl, trivial, gBi ht9 (gfin hP (by simp only [sThaw, sThawF]; simp [*]))⟩, hS.F ht9⟩) hS.2.2 dX0_thaw_73
    · skip
      refine lv_aload_n hx hb dX0_thaw_57 rfl (lv_at hl 0 rfl) ?_
      refine lv_aload_n hx hb dX0_thaw_58 rfl (lv_at hl 0 rfl) ?_
      refine va_get (D := G) (ci := 0) (v := .int (N 7)) (C := RX0) (T := TX0) (N := 11) hx hb hts hiRX0 hown hK hP 0 rfl rfl 7 (by decide) (hts (.fieldLink RX0 46 "NameAuction$Name" "challenger" "I") (by decide +kernel)) (fun _ h9 => h9) rfl dX0_thaw_59 ?_
      refine lv_iload_n hx hb dX0_thaw_62 rfl (lv_at hl 2 rfl) ?_
      refine gcv (va_runV (As := [.int (N 7), .int p1]) (rest := []) ⟨hx, hb, hml, hown, hts⟩ (kX0_leaseTo l G T x1 x2 x3 N f g (N 7) p1 _) (cwV 2 hts gX0_thaw_X0_leaseTo rfl rfl rfl (by decide +kernel) ⟨Nat.le_of_ble_eq_true rfl, Nat.le_of_ble_eq_true rfl⟩) ⟨gblind, va_recv hK hP (ci := 0) (q0 := 0) rfl rfl, gpre hE hK hP hD hS hA [0, 1, 2] rfl rfl⟩ rfl rfl hl.1 rfl (lv_room (Nat.le_of_ble_eq_true rfl)) dX0_thaw_63 ⟨Nat.le_of_ble_eq_true rfl, Nat.le_of_ble_eq_true rfl⟩) hP hD hS hA [0, 1, 2] rfl rfl (fun H locs hw hP hD hS => ?_)
      have hP : va_P G vwCl (cN T x1 x2 x3 (upd (upd (upd (upd (upd N 0 2) 1 (N 7)) 3 (p1 + 100)) 4 0) 5 10) (fun _ => 0) g) H := hP
      have hD : va_D (va_A (cN T x1 x2 x3 N f g) s.heap.size) (cN T x1 x2 x3 (upd (upd (upd (upd (upd N 0 2) 1 (N 7)) 3 (p1 + 100)) 4 0) 5 10) (fun _ => 0) g) := hD
      refine lv_goto (tgt := 73) hx hb dX0_thaw_66 (by decide) ?_
      exact W.vret hx hb hr (fun t ht9 hW => ⟨⟨(), rfl, trivial, gBi ht9 (gfin hP (by simp only [sThaw, sThawF]; simp [*]))⟩, hS.F ht9⟩) hS.2.2 dX0_thaw_73
  · skip
    refine lv_aload_n hx hb dX0_thaw_8 rfl (lv_at hl 0 rfl) ?_
    refine lv_aload_n hx hb dX0_thaw_9 rfl (lv_at hl 0 rfl) ?_
    refine va_get (D := G) (ci := 0) (v := .int (N 6)) (C := RX0) (T := TX0) (N := 11) hx hb hts hiRX0 hown hK hP 0 rfl rfl 6 (by decide) (hts (.fieldLink RX0 43 "NameAuction$Name" "phaseBefore" "I") (by decide +kernel)) (fun _ h9 => h9) rfl dX0_thaw_10 ?_
    refine va_put (D := G) (ci := 0) (v := .int (N 6)) (ty := .int) (C := RX0) (T := TX0) (N := 11) hx hb hts hiRX0 tyX0 tyX0_ok nmX0 hown hK hP hD hS 0 rfl rfl 0 (by decide) (hts (.fieldLink RX0 9 "NameAuction$Name" "phase" "I") (by decide +kernel)) (fun _ h9 => h9) rfl (by decide +kernel) rfl rfl (Nat.le_of_ble_eq_true rfl) dX0_thaw_13 (fun H locs hP hD hS => ?_)
    have hP : va_P G vwCl (cN T x1 x2 x3 (upd N 0 (N 6)) f g) H := hP
    have hD : va_D (va_A (cN T x1 x2 x3 N f g) s.heap.size) (cN T x1 x2 x3 (upd N 0 (N 6)) f g) := hD
    refine lv_aload_n hx hb dX0_thaw_16 rfl (lv_at hl 0 rfl) ?_
    refine lv_dup hx hb dX0_thaw_17 rfl ?_
    refine va_get (D := G) (ci := 0) (v := .int (N 3)) (C := RX0) (T := TX0) (N := 11) hx hb hts hiRX0 hown hK hP 0 rfl rfl 3 (by decide) (hts (.fieldLink RX0 31 "NameAuction$Name" "end" "I") (by decide +kernel)) (fun _ h9 => h9) rfl dX0_thaw_18 ?_
    refine lv_iload_n hx hb dX0_thaw_21 rfl (lv_at hl 2 rfl) ?_
    refine lv_aload_n hx hb dX0_thaw_22 rfl (lv_at hl 0 rfl) ?_
    refine va_get (D := G) (ci := 0) (v := .int (N 8)) (C := RX0) (T := TX0) (N := 11) hx hb hts hiRX0 hown hK hP 0 rfl rfl 8 (by decide) (hts (.fieldLink RX0 49 "NameAuction$Name" "frozenOn" "I") (by decide +kernel)) (fun _ h9 => h9) rfl dX0_thaw_23 ?_
    refine lv_isub hx hb dX0_thaw_26 ?_
    refine lv_iadd hx hb dX0_thaw_27 ?_
    refine va_put (D := G) (ci := 0) (v := .int ((N 3) + (p1 - (N 8)))) (ty := .int) (C := RX0) (T := TX0) (N := 11) hx hb hts hiRX0 tyX0 tyX0_ok nmX0 hown hK hP hD hS 0 rfl rfl 3 (by decide) (hts (.fieldLink RX0 31 "NameAuction$Name" "end" "I") (by decide +kernel)) (fun _ h9 => h9) rfl (by decide +kernel) rfl rfl (Nat.le_of_ble_eq_true rfl) dX0_thaw_28 (fun H locs hP hD hS => ?_)
    have hP : va_P G vwCl (cN T x1 x2 x3 (upd (upd N 0 (N 6)) 3 ((N 3) + (p1 - (N 8)))) f g) H := hP
    have hD : va_D (va_A (cN T x1 x2 x3 N f g) s.heap.size) (cN T x1 x2 x3 (upd (upd N 0 (N 6)) 3 ((N 3) + (p1 - (N 8)))) f g) := hD
    refine lv_aload_n hx hb dX0_thaw_31 rfl (lv_at hl 0 rfl) ?_
    refine lv_iload_n hx hb dX0_thaw_32 rfl (lv_at hl 1 rfl) ?_
    refine lv_if_eq (tgt := 43) hx hb dX0_thaw_33 (by decide) (fun c33 => ?_) (fun c33 => ?_)
    · skip
      refine lv_aload_n hx hb dX0_thaw_43 rfl (lv_at hl 0 rfl) ?_
      refine va_get (D := G) (ci := 0) (v := .int (N 1)) (C := RX0) (T := TX0) (N := 11) hx hb hts hiRX0 hown hK hP 0 rfl rfl 1 (by decide) (hts (.fieldLink RX0 15 "NameAuction$Name" "holder" "I") (by decide +kernel)) (fun _ h9 => h9) rfl dX0_thaw_44 ?_
      refine va_put (D := G) (ci := 0) (v := .int (N 1)) (ty := .int) (C := RX0) (T := TX0) (N := 11) hx hb hts hiRX0 tyX0 tyX0_ok nmX0 hown hK hP hD hS 0 rfl rfl 1 (by decide) (hts (.fieldLink RX0 15 "NameAuction$Name" "holder" "I") (by decide +kernel)) (fun _ h9 => h9) rfl (by decide +kernel) rfl rfl (Nat.le_of_ble_eq_true rfl) dX0_thaw_47 (fun H locs hP hD hS => ?_)
      have hP : va_P G vwCl (cN T x1 x2 x3 (upd (upd (upd N 0 (N 6)) 3 ((N 3) + (p1 - (N 8)))) 1 (N 1)) f g) H := hP
      have hD : va_D (va_A (cN T x1 x2 x3 N f g) s.heap.size) (cN T x1 x2 x3 (upd (upd (upd N 0 (N 6)) 3 ((N 3) + (p1 - (N 8)))) 1 (N 1)) f g) := hD
      refine lv_goto (tgt := 73) hx hb dX0_thaw_50 (by decide) ?_
      exact W.vret hx hb hr (fun t ht9 hW => ⟨⟨(), rfl, trivial, gBi ht9 (gfin hP (by simp only [sThaw, sThawF]; simp [*]))⟩, hS.F ht9⟩) hS.2.2 dX0_thaw_73
    · skip
      refine lv_aload_n hx hb dX0_thaw_36 rfl (lv_at hl 0 rfl) ?_
      refine va_get (D := G) (ci := 0) (v := .int (N 7)) (C := RX0) (T := TX0) (N := 11) hx hb hts hiRX0 hown hK hP 0 rfl rfl 7 (by decide) (hts (.fieldLink RX0 46 "NameAuction$Name" "challenger" "I") (by decide +kernel)) (fun _ h9 => h9) rfl dX0_thaw_37 ?_
      refine lv_goto (tgt := 47) hx hb dX0_thaw_40 (by decide) ?_
      refine va_put (D := G) (ci := 0) (v := .int (N 7)) (ty := .int) (C := RX0) (T := TX0) (N := 11) hx hb hts hiRX0 tyX0 tyX0_ok nmX0 hown hK hP hD hS 0 rfl rfl 1 (by decide) (hts (.fieldLink RX0 15 "NameAuction$Name" "holder" "I") (by decide +kernel)) (fun _ h9 => h9) rfl (by decide +kernel) rfl rfl (Nat.le_of_ble_eq_true rfl) dX0_thaw_47 (fun H locs hP hD hS => ?_)
      have hP : va_P G vwCl (cN T x1 x2 x3 (upd (upd (upd N 0 (N 6)) 3 ((N 3) + (p1 - (N 8)))) 1 (N 7)) f g) H := hP
      have hD : va_D (va_A (cN T x1 x2 x3 N f g) s.heap.size) (cN T x1 x2 x3 (upd (upd (upd N 0 (N 6)) 3 ((N 3) + (p1 - (N 8)))) 1 (N 7)) f g) := hD
      refine lv_goto (tgt := 73) hx hb dX0_thaw_50 (by decide) ?_
      exact W.vret hx hb hr (fun t ht9 hW => ⟨⟨(), rfl, trivial, gBi ht9 (gfin hP (by simp only [sThaw, sThawF]; simp [*]))⟩, hS.F ht9⟩) hS.2.2 dX0_thaw_73
abbrev PX0_isAhead (G : va_G) (T : Nat → ClassId) (x1 x2 x3 : Nat) (N f g : Nat → Int32) (i j : Nat) (sz : Nat) : Array Value → State → Prop := gPc G T [.ref x1, .int (nI i), .int (nI j)] (cN T x1 x2 x3 N f g) sz
abbrev QX0_isAhead (G : va_G) (T : Nat → ClassId) (x1 x2 x3 : Nat) (N f g : Nat → Int32) (i j : Nat) (sz : Nat) : Array Value → State → Outcome → State → Prop := va_Qi (fun (r : Int32) (_ : Unit) => r = sAhead f g i j) (gB G (cN T x1 x2 x3 N f g)) (va_A (cN T x1 x2 x3 N f g) sz)
set_option maxHeartbeats 4000000 in
set_option maxRecDepth 100000 in
theorem kX0_isAhead (l : Launch) (G : va_G) (T : Nat → ClassId) (x1 x2 x3 : Nat) (N f g : Nat → Int32) (i j : Nat) (sz : Nat) (hi : i < 6) (hj : j < 6) : Met l yX0_isAhead wsX0_isAhead ({ frames := 0, cells := 0, slots := 0, locals := 0 } : Room) (PX0_isAhead G T x1 x2 x3 N f g i j sz) (QX0_isAhead G T x1 x2 x3 N f g i j sz) 0 0 (va_A (cN T x1 x2 x3 N f g) sz) := by
  refine Met.ofW (cc := cX0_isAhead) (maxL := 3) (ret := (some .boolean)) (by decide) rfl ?_
  intro p e s m args below meth c s₁ B hml hv
  obtain ⟨rfl, hsz, hP, hK, hD0, hE⟩ := hv
  have hx := B.exec
  have hb := B.bytes
  have hr := B.returns
  have hts := atoms_spec (ws := wsX0_isAhead) B.pre
  have hown : s.vm.findClass RX0 = some m.cls := findClass_of_methodNamed B.named
  have hlocks := B.notSynchronized
  subst hsz
  have hD := hD0.self (sz := s.heap.size)
  have hA : ∀ q : Nat, s.heap.size ≤ q → (va_A (cN T x1 x2 x3 N f g) s.heap.size) q := fun q h => Or.inr h
  have hS : va_S (va_A (cN T x1 x2 x3 N f g) s.heap.size) s.heap s.heap [] := va_S.rf
  have hiRX0 : ∀ w ∈ u_ws RX0 TX0 11, w ∈ wsX0_isAhead := by decide +kernel
  have hl := lv_entry ([.ref x1, .int (nI i), .int (nI j)]) (n := 3) (Nat.le_of_ble_eq_true rfl)
  rw [lg_entry_eq]
  generalize (lg_sl ([.ref x1, .int (nI i), .int (nI j)]) ++ List.replicate (3 - (lg_sl ([.ref x1, .int (nI i), .int (nI j)])).length) Slot.unset).toArray = ls at hl ⊢
  have hl : lv_has ls 3 [(0, .ref x1), (1, .int (nI i)), (2, .int (nI j))] := hl
  have hP : va_P G vwCl (cN T x1 x2 x3 N f g) s.heap := hP
  refine lv_aload_n hx hb dX0_isAhead_0 rfl (lv_at hl 0 rfl) ?_
  refine va_get (D := G) (ci := 0) (v := .ref x2) (C := RX0) (T := TX0) (N := 11) hx hb hts hiRX0 hown hK hP 0 rfl rfl 9 (by decide) (hts (.fieldLink RX0 18 "NameAuction$Name" "amounts" "[I") (by decide +kernel)) (fun _ h9 => h9) rfl dX0_isAhead_1 ?_
  refine lv_iload_n hx hb dX0_isAhead_4 rfl (lv_at hl 1 rfl) ?_
  refine giald (j := i) hx hb hK hP 1 0 rfl rfl (show (nI i : Int32) = nI i from rfl) (by omega) (by decide) dX0_isAhead_5 ?_
  refine lv_aload_n hx hb dX0_isAhead_6 rfl (lv_at hl 0 rfl) ?_
  refine va_get (D := G) (ci := 0) (v := .ref x2) (C := RX0) (T := TX0) (N := 11) hx hb hts hiRX0 hown hK hP 0 rfl rfl 9 (by decide) (hts (.fieldLink RX0 18 "NameAuction$Name" "amounts" "[I") (by decide +kernel)) (fun _ h9 => h9) rfl dX0_isAhead_7 ?_
  refine lv_iload_n hx hb dX0_isAhead_10 rfl (lv_at hl 2 rfl) ?_
  refine giald (j := j) hx hb hK hP 1 0 rfl rfl (show (nI j : Int32) = nI j from rfl) (by omega) (by decide) dX0_isAhead_11 ?_
  refine lv_icmp_eq (tgt := 36) hx hb dX0_isAhead_12 (by decide) (fun c12 => ?_) (fun c12 => ?_)
  · skip
    refine lv_aload_n hx hb dX0_isAhead_36 rfl (lv_at hl 0 rfl) ?_
    refine va_get (D := G) (ci := 0) (v := .ref x3) (C := RX0) (T := TX0) (N := 11) hx hb hts hiRX0 hown hK hP 0 rfl rfl 10 (by decide) (hts (.fieldLink RX0 22 "NameAuction$Name" "turns" "[I") (by decide +kernel)) (fun _ h9 => h9) rfl dX0_isAhead_37 ?_
    refine lv_iload_n hx hb dX0_isAhead_40 rfl (lv_at hl 1 rfl) ?_
    refine giald (j := i) hx hb hK hP 2 0 rfl rfl (show (nI i : Int32) = nI i from rfl) (by omega) (by decide) dX0_isAhead_41 ?_
    refine lv_aload_n hx hb dX0_isAhead_42 rfl (lv_at hl 0 rfl) ?_
    refine va_get (D := G) (ci := 0) (v := .ref x3) (C := RX0) (T := TX0) (N := 11) hx hb hts hiRX0 hown hK hP 0 rfl rfl 10 (by decide) (hts (.fieldLink RX0 22 "NameAuction$Name" "turns" "[I") (by decide +kernel)) (fun _ h9 => h9) rfl dX0_isAhead_43 ?_
    refine lv_iload_n hx hb dX0_isAhead_46 rfl (lv_at hl 2 rfl) ?_
    refine giald (j := j) hx hb hK hP 2 0 rfl rfl (show (nI j : Int32) = nI j from rfl) (by omega) (by decide) dX0_isAhead_47 ?_
    refine lv_icmp_ge (tgt := 55) hx hb dX0_isAhead_48 (by decide) (fun c48 => ?_) (fun c48 => ?_)
    · skip
      refine lv_iconst (v := 0) hx hb dX0_isAhead_55 (by decide) ?_
      exact W.zret (v := 0) hx hb hr (by decide) (fun t ht9 hW => ⟨⟨0, (), rfl, by simp [sAhead, bI, *], gBi ht9 (gfin hP (rfl))⟩, hS.F ht9⟩) hS.2.2 dX0_isAhead_56
    · skip
      refine lv_iconst (v := 1) hx hb dX0_isAhead_51 (by decide) ?_
      refine lv_goto (tgt := 56) hx hb dX0_isAhead_52 (by decide) ?_
      exact W.zret (v := 1) hx hb hr (by decide) (fun t ht9 hW => ⟨⟨1, (), rfl, by simp [sAhead, bI, *], gBi ht9 (gfin hP (rfl))⟩, hS.F ht9⟩) hS.2.2 dX0_isAhead_56
  · skip
    refine lv_aload_n hx hb dX0_isAhead_15 rfl (lv_at hl 0 rfl) ?_
    refine va_get (D := G) (ci := 0) (v := .ref x2) (C := RX0) (T := TX0) (N := 11) hx hb hts hiRX0 hown hK hP 0 rfl rfl 9 (by decide) (hts (.fieldLink RX0 18 "NameAuction$Name" "amounts" "[I") (by decide +kernel)) (fun _ h9 => h9) rfl dX0_isAhead_16 ?_
    refine lv_iload_n hx hb dX0_isAhead_19 rfl (lv_at hl 1 rfl) ?_
    refine giald (j := i) hx hb hK hP 1 0 rfl rfl (show (nI i : Int32) = nI i from rfl) (by omega) (by decide) dX0_isAhead_20 ?_
    refine lv_aload_n hx hb dX0_isAhead_21 rfl (lv_at hl 0 rfl) ?_
    refine va_get (D := G) (ci := 0) (v := .ref x2) (C := RX0) (T := TX0) (N := 11) hx hb hts hiRX0 hown hK hP 0 rfl rfl 9 (by decide) (hts (.fieldLink RX0 18 "NameAuction$Name" "amounts" "[I") (by decide +kernel)) (fun _ h9 => h9) rfl dX0_isAhead_22 ?_
    refine lv_iload_n hx hb dX0_isAhead_25 rfl (lv_at hl 2 rfl) ?_
    refine giald (j := j) hx hb hK hP 1 0 rfl rfl (show (nI j : Int32) = nI j from rfl) (by omega) (by decide) dX0_isAhead_26 ?_
    refine lv_icmp_le (tgt := 34) hx hb dX0_isAhead_27 (by decide) (fun c27 => ?_) (fun c27 => ?_)
    · skip
      refine lv_iconst (v := 0) hx hb dX0_isAhead_34 (by decide) ?_
      exact W.zret (v := 0) hx hb hr (by decide) (fun t ht9 hW => ⟨⟨0, (), rfl, by simp [sAhead, bI, *], gBi ht9 (gfin hP (rfl))⟩, hS.F ht9⟩) hS.2.2 dX0_isAhead_35
    · skip
      refine lv_iconst (v := 1) hx hb dX0_isAhead_30 (by decide) ?_
      refine lv_goto (tgt := 35) hx hb dX0_isAhead_31 (by decide) ?_
      exact W.zret (v := 1) hx hb hr (by decide) (fun t ht9 hW => ⟨⟨1, (), rfl, by simp [sAhead, bI, *], gBi ht9 (gfin hP (rfl))⟩, hS.F ht9⟩) hS.2.2 dX0_isAhead_35
abbrev PX2_isHeld (G : va_G) (T : Nat → ClassId) (p0 : Int32) (sz : Nat) : Array Value → State → Prop := gPc G T [.int p0] ([] : va_W) sz
abbrev QX2_isHeld (G : va_G) (T : Nat → ClassId) (p0 : Int32) (sz : Nat) : Array Value → State → Outcome → State → Prop := va_Qi (fun (r : Int32) (_ : Unit) => r = sHeld p0) (gB G (([] : va_W))) (va_A ([] : va_W) sz)
set_option maxHeartbeats 4000000 in
set_option maxRecDepth 100000 in
theorem kX2_isHeld (l : Launch) (G : va_G) (T : Nat → ClassId) (p0 : Int32) (sz : Nat)  : Met l yX2_isHeld wsX2_isHeld ({ frames := 0, cells := 0, slots := 0, locals := 0 } : Room) (PX2_isHeld G T p0 sz) (QX2_isHeld G T p0 sz) 0 0 (va_A ([] : va_W) sz) := by
  refine Met.ofW (cc := cX2_isHeld) (maxL := 1) (ret := (some .boolean)) (by decide) rfl ?_
  intro p e s m args below meth c s₁ B hml hv
  obtain ⟨rfl, hsz, hP, hK, hD0, hE⟩ := hv
  have hx := B.exec
  have hb := B.bytes
  have hr := B.returns
  have hts := atoms_spec (ws := wsX2_isHeld) B.pre
  have hown : s.vm.findClass RX2 = some m.cls := findClass_of_methodNamed B.named
  have hlocks := B.notSynchronized
  subst hsz
  have hD := hD0.self (sz := s.heap.size)
  have hA : ∀ q : Nat, s.heap.size ≤ q → (va_A ([] : va_W) s.heap.size) q := fun q h => Or.inr h
  have hS : va_S (va_A ([] : va_W) s.heap.size) s.heap s.heap [] := va_S.rf
  have hl := lv_entry ([.int p0]) (n := 1) (Nat.le_of_ble_eq_true rfl)
  rw [lg_entry_eq]
  generalize (lg_sl ([.int p0]) ++ List.replicate (1 - (lg_sl ([.int p0])).length) Slot.unset).toArray = ls at hl ⊢
  have hl : lv_has ls 1 [(0, .int p0)] := hl
  have hP : va_P G vwCl (([] : va_W)) s.heap := hP
  refine lv_iload_n hx hb dX2_isHeld_0 rfl (lv_at hl 0 rfl) ?_
  refine lv_iconst (v := 2) hx hb dX2_isHeld_1 (by decide) ?_
  refine lv_icmp_eq (tgt := 10) hx hb dX2_isHeld_2 (by decide) (fun c2 => ?_) (fun c2 => ?_)
  · skip
    refine lv_iconst (v := 1) hx hb dX2_isHeld_10 (by decide) ?_
    refine lv_goto (tgt := 15) hx hb dX2_isHeld_11 (by decide) ?_
    exact W.zret (v := 1) hx hb hr (by decide) (fun t ht9 hW => ⟨⟨1, (), rfl, by simp [sHeld, bI, *], gBi ht9 (gfin hP (rfl))⟩, hS.F ht9⟩) hS.2.2 dX2_isHeld_15
  · skip
    refine lv_iload_n hx hb dX2_isHeld_5 rfl (lv_at hl 0 rfl) ?_
    refine lv_iconst (v := 3) hx hb dX2_isHeld_6 (by decide) ?_
    refine lv_icmp_ne (tgt := 14) hx hb dX2_isHeld_7 (by decide) (fun c7 => ?_) (fun c7 => ?_)
    · skip
      refine lv_iconst (v := 0) hx hb dX2_isHeld_14 (by decide) ?_
      exact W.zret (v := 0) hx hb hr (by decide) (fun t ht9 hW => ⟨⟨0, (), rfl, by simp [sHeld, bI, *], gBi ht9 (gfin hP (rfl))⟩, hS.F ht9⟩) hS.2.2 dX2_isHeld_15
    · skip
      refine lv_iconst (v := 1) hx hb dX2_isHeld_10 (by decide) ?_
      refine lv_goto (tgt := 15) hx hb dX2_isHeld_11 (by decide) ?_
      exact W.zret (v := 1) hx hb hr (by decide) (fun t ht9 hW => ⟨⟨1, (), rfl, by simp [sHeld, bI, *], gBi ht9 (gfin hP (rfl))⟩, hS.F ht9⟩) hS.2.2 dX2_isHeld_15
abbrev PX0_hasRecord (G : va_G) (T : Nat → ClassId) (x1 x2 x3 : Nat) (N f g : Nat → Int32) (sz : Nat) : Array Value → State → Prop := gPc G T [.ref x1] (cN T x1 x2 x3 N f g) sz
abbrev QX0_hasRecord (G : va_G) (T : Nat → ClassId) (x1 x2 x3 : Nat) (N f g : Nat → Int32) (sz : Nat) : Array Value → State → Outcome → State → Prop := va_Qi (fun (r : Int32) (_ : Unit) => r = sRec N) (gB G (cN T x1 x2 x3 N f g)) (va_A (cN T x1 x2 x3 N f g) sz)
set_option maxHeartbeats 4000000 in
set_option maxRecDepth 100000 in
theorem kX0_hasRecord (l : Launch) (G : va_G) (T : Nat → ClassId) (x1 x2 x3 : Nat) (N f g : Nat → Int32) (sz : Nat)  : Met l yX0_hasRecord wsX0_hasRecord ({ frames := 1, cells := 0, slots := 0, locals := 20 } : Room) (PX0_hasRecord G T x1 x2 x3 N f g sz) (QX0_hasRecord G T x1 x2 x3 N f g sz) 0 0 (va_A (cN T x1 x2 x3 N f g) sz) := by
  refine Met.ofW (cc := cX0_hasRecord) (maxL := 1) (ret := (some .boolean)) (by decide) rfl ?_
  intro p e s m args below meth c s₁ B hml hv
  obtain ⟨rfl, hsz, hP, hK, hD0, hE⟩ := hv
  have hx := B.exec
  have hb := B.bytes
  have hr := B.returns
  have hts := atoms_spec (ws := wsX0_hasRecord) B.pre
  have hown : s.vm.findClass RX0 = some m.cls := findClass_of_methodNamed B.named
  have hlocks := B.notSynchronized
  subst hsz
  have hD := hD0.self (sz := s.heap.size)
  have hA : ∀ q : Nat, s.heap.size ≤ q → (va_A (cN T x1 x2 x3 N f g) s.heap.size) q := fun q h => Or.inr h
  have hS : va_S (va_A (cN T x1 x2 x3 N f g) s.heap.size) s.heap s.heap [] := va_S.rf
  have hiRX0 : ∀ w ∈ u_ws RX0 TX0 11, w ∈ wsX0_hasRecord := by decide +kernel
  have hl := lv_entry ([.ref x1]) (n := 1) (Nat.le_of_ble_eq_true rfl)
  rw [lg_entry_eq]
  generalize (lg_sl ([.ref x1]) ++ List.replicate (1 - (lg_sl ([.ref x1])).length) Slot.unset).toArray = ls at hl ⊢
  have hl : lv_has ls 1 [(0, .ref x1)] := hl
  have hP : va_P G vwCl (cN T x1 x2 x3 N f g) s.heap := hP
  refine lv_aload_n hx hb dX0_hasRecord_0 rfl (lv_at hl 0 rfl) ?_
  refine va_get (D := G) (ci := 0) (v := .int (N 0)) (C := RX0) (T := TX0) (N := 11) hx hb hts hiRX0 hown hK hP 0 rfl rfl 0 (by decide) (hts (.fieldLink RX0 9 "NameAuction$Name" "phase" "I") (by decide +kernel)) (fun _ h9 => h9) rfl dX0_hasRecord_1 ?_
  refine lv_iconst (v := 5) hx hb dX0_hasRecord_4 (by decide) ?_
  refine lv_icmp_ne (tgt := 15) hx hb dX0_hasRecord_5 (by decide) (fun c5 => ?_) (fun c5 => ?_)
  · skip
    refine lv_aload_n hx hb dX0_hasRecord_15 rfl (lv_at hl 0 rfl) ?_
    refine va_get (D := G) (ci := 0) (v := .int (N 0)) (C := RX0) (T := TX0) (N := 11) hx hb hts hiRX0 hown hK hP 0 rfl rfl 0 (by decide) (hts (.fieldLink RX0 9 "NameAuction$Name" "phase" "I") (by decide +kernel)) (fun _ h9 => h9) rfl dX0_hasRecord_16 ?_
    refine gci (va_runSN (As := [.int (N 0)]) (rest := []) ⟨hx, hb, hml, hown, hts⟩ (kX2_isHeld l G T (N 0) _) ⟨(va_cnB 1 hts ggX0_hasRecord_X2_isHeld rfl rfl rfl (hE.1 (.methodLinkNest RX0 62 yX2_isHeld RX2) (by decide +kernel)) (hts (.initialized RX2) (by decide +kernel)) (by decide +kernel) ⟨Nat.le_of_ble_eq_true rfl, Nat.le_of_ble_eq_true rfl⟩), hts (.static yX2_isHeld) (by decide +kernel), trivial⟩ ⟨gblind, gpre hE hK hP hD hS hA [] rfl rfl⟩ rfl rfl hl.1 rfl (lv_room (Nat.le_of_ble_eq_true rfl)) dX0_hasRecord_19 ⟨Nat.le_of_ble_eq_true rfl, Nat.le_of_ble_eq_true rfl⟩) hP hD hS hA [] rfl rfl (fun r9 H locs hw hP hD hS => ?_)
    have hP : va_P G vwCl (cN T x1 x2 x3 N f g) H := hP
    have hD : va_D (va_A (cN T x1 x2 x3 N f g) s.heap.size) (cN T x1 x2 x3 N f g) := hD
    subst hw
    exact W.zret (v := sHeld (N 0)) hx hb hr (bI_ok _) (fun t ht9 hW => ⟨⟨sHeld (N 0), (), rfl, by simp [sRec, *], gBi ht9 (gfin hP (rfl))⟩, hS.F ht9⟩) hS.2.2 dX0_hasRecord_22
  · skip
    refine lv_aload_n hx hb dX0_hasRecord_8 rfl (lv_at hl 0 rfl) ?_
    refine va_get (D := G) (ci := 0) (v := .int (N 6)) (C := RX0) (T := TX0) (N := 11) hx hb hts hiRX0 hown hK hP 0 rfl rfl 6 (by decide) (hts (.fieldLink RX0 43 "NameAuction$Name" "phaseBefore" "I") (by decide +kernel)) (fun _ h9 => h9) rfl dX0_hasRecord_9 ?_
    refine lv_goto (tgt := 19) hx hb dX0_hasRecord_12 (by decide) ?_
    refine gci (va_runSN (As := [.int (N 6)]) (rest := []) ⟨hx, hb, hml, hown, hts⟩ (kX2_isHeld l G T (N 6) _) ⟨(va_cnB 1 hts ggX0_hasRecord_X2_isHeld rfl rfl rfl (hE.1 (.methodLinkNest RX0 62 yX2_isHeld RX2) (by decide +kernel)) (hts (.initialized RX2) (by decide +kernel)) (by decide +kernel) ⟨Nat.le_of_ble_eq_true rfl, Nat.le_of_ble_eq_true rfl⟩), hts (.static yX2_isHeld) (by decide +kernel), trivial⟩ ⟨gblind, gpre hE hK hP hD hS hA [] rfl rfl⟩ rfl rfl hl.1 rfl (lv_room (Nat.le_of_ble_eq_true rfl)) dX0_hasRecord_19 ⟨Nat.le_of_ble_eq_true rfl, Nat.le_of_ble_eq_true rfl⟩) hP hD hS hA [] rfl rfl (fun r9 H locs hw hP hD hS => ?_)
    have hP : va_P G vwCl (cN T x1 x2 x3 N f g) H := hP
    have hD : va_D (va_A (cN T x1 x2 x3 N f g) s.heap.size) (cN T x1 x2 x3 N f g) := hD
    subst hw
    exact W.zret (v := sHeld (N 6)) hx hb hr (bI_ok _) (fun t ht9 hW => ⟨⟨sHeld (N 6), (), rfl, by simp [sRec, *], gBi ht9 (gfin hP (rfl))⟩, hS.F ht9⟩) hS.2.2 dX0_hasRecord_22
abbrev PX0_answer (G : va_G) (T : Nat → ClassId) (x1 x2 x3 : Nat) (N f g : Nat → Int32) (sz : Nat) : Array Value → State → Prop := gPc G T [.ref x1] (cN T x1 x2 x3 N f g) sz
abbrev QX0_answer (G : va_G) (T : Nat → ClassId) (x1 x2 x3 : Nat) (N f g : Nat → Int32) (sz : Nat) : Array Value → State → Outcome → State → Prop := va_Qi (fun (r : Int32) (_ : Unit) => r = sAns N) (gB G (cN T x1 x2 x3 N f g)) (va_A (cN T x1 x2 x3 N f g) sz)
set_option maxHeartbeats 4000000 in
set_option maxRecDepth 100000 in
theorem kX0_answer (l : Launch) (G : va_G) (T : Nat → ClassId) (x1 x2 x3 : Nat) (N f g : Nat → Int32) (sz : Nat)  : Met l yX0_answer wsX0_answer ({ frames := 2, cells := 0, slots := 0, locals := 40 } : Room) (PX0_answer G T x1 x2 x3 N f g sz) (QX0_answer G T x1 x2 x3 N f g sz) 0 0 (va_A (cN T x1 x2 x3 N f g) sz) := by
  refine Met.ofW (cc := cX0_answer) (maxL := 1) (ret := (some .int)) (by decide) rfl ?_
  intro p e s m args below meth c s₁ B hml hv
  obtain ⟨rfl, hsz, hP, hK, hD0, hE⟩ := hv
  have hx := B.exec
  have hb := B.bytes
  have hr := B.returns
  have hts := atoms_spec (ws := wsX0_answer) B.pre
  have hown : s.vm.findClass RX0 = some m.cls := findClass_of_methodNamed B.named
  have hlocks := B.notSynchronized
  subst hsz
  have hD := hD0.self (sz := s.heap.size)
  have hA : ∀ q : Nat, s.heap.size ≤ q → (va_A (cN T x1 x2 x3 N f g) s.heap.size) q := fun q h => Or.inr h
  have hS : va_S (va_A (cN T x1 x2 x3 N f g) s.heap.size) s.heap s.heap [] := va_S.rf
  have hiRX0 : ∀ w ∈ u_ws RX0 TX0 11, w ∈ wsX0_answer := by decide +kernel
  have hl := lv_entry ([.ref x1]) (n := 1) (Nat.le_of_ble_eq_true rfl)
  rw [lg_entry_eq]
  generalize (lg_sl ([.ref x1]) ++ List.replicate (1 - (lg_sl ([.ref x1])).length) Slot.unset).toArray = ls at hl ⊢
  have hl : lv_has ls 1 [(0, .ref x1)] := hl
  have hP : va_P G vwCl (cN T x1 x2 x3 N f g) s.heap := hP
  refine lv_aload_n hx hb dX0_answer_0 rfl (lv_at hl 0 rfl) ?_
  refine gci (va_runV (As := []) (rest := []) ⟨hx, hb, hml, hown, hts⟩ (kX0_hasRecord l G T x1 x2 x3 N f g _) (cwV 0 hts gX0_answer_X0_hasRecord rfl rfl rfl (by decide +kernel) ⟨Nat.le_of_ble_eq_true rfl, Nat.le_of_ble_eq_true rfl⟩) ⟨gblind, va_recv hK hP (ci := 0) (q0 := 0) rfl rfl, gpre hE hK hP hD hS hA [0, 1, 2] rfl rfl⟩ rfl rfl hl.1 rfl (lv_room (Nat.le_of_ble_eq_true rfl)) dX0_answer_1 ⟨Nat.le_of_ble_eq_true rfl, Nat.le_of_ble_eq_true rfl⟩) hP hD hS hA [0, 1, 2] rfl rfl (fun r9 H locs hw hP hD hS => ?_)
  have hP : va_P G vwCl (cN T x1 x2 x3 N f g) H := hP
  have hD : va_D (va_A (cN T x1 x2 x3 N f g) s.heap.size) (cN T x1 x2 x3 N f g) := hD
  subst hw
  refine lv_if_eq (tgt := 14) hx hb dX0_answer_4 (by decide) (fun c4 => ?_) (fun c4 => ?_)
  · skip
    refine lv_iconst (v := (-1)) hx hb dX0_answer_14 (by decide) ?_
    exact W.iret (v := (-1)) hx hb hr (fun t ht9 hW => ⟨⟨(-1), (), rfl, by simp [sAns, *], gBi ht9 (gfin hP (rfl))⟩, hS.F ht9⟩) hS.2.2 dX0_answer_15
  · skip
    refine lv_aload_n hx hb dX0_answer_7 rfl (lv_at hl 0 rfl) ?_
    refine va_get (D := G) (ci := 0) (v := .int (N 4)) (C := RX0) (T := TX0) (N := 11) hx hb hts hiRX0 hown hK hP 0 rfl rfl 4 (by decide) (hts (.fieldLink RX0 34 "NameAuction$Name" "record" "I") (by decide +kernel)) (fun _ h9 => h9) rfl dX0_answer_8 ?_
    refine lv_goto (tgt := 15) hx hb dX0_answer_11 (by decide) ?_
    exact W.iret (v := N 4) hx hb hr (fun t ht9 hW => ⟨⟨N 4, (), rfl, by simp [sAns, *], gBi ht9 (gfin hP (rfl))⟩, hS.F ht9⟩) hS.2.2 dX0_answer_15
abbrev PX0_answerLifetime (G : va_G) (T : Nat → ClassId) (x1 x2 x3 : Nat) (N f g : Nat → Int32) (sz : Nat) : Array Value → State → Prop := gPc G T [.ref x1] (cN T x1 x2 x3 N f g) sz
abbrev QX0_answerLifetime (G : va_G) (T : Nat → ClassId) (x1 x2 x3 : Nat) (N f g : Nat → Int32) (sz : Nat) : Array Value → State → Outcome → State → Prop := va_Qi (fun (r : Int32) (_ : Unit) => r = sLife N) (gB G (cN T x1 x2 x3 N f g)) (va_A (cN T x1 x2 x3 N f g) sz)
set_option maxHeartbeats 4000000 in
set_option maxRecDepth 100000 in
theorem kX0_answerLifetime (l : Launch) (G : va_G) (T : Nat → ClassId) (x1 x2 x3 : Nat) (N f g : Nat → Int32) (sz : Nat)  : Met l yX0_answerLifetime wsX0_answerLifetime ({ frames := 2, cells := 0, slots := 0, locals := 40 } : Room) (PX0_answerLifetime G T x1 x2 x3 N f g sz) (QX0_answerLifetime G T x1 x2 x3 N f g sz) 0 0 (va_A (cN T x1 x2 x3 N f g) sz) := by
  refine Met.ofW (cc := cX0_answerLifetime) (maxL := 1) (ret := (some .int)) (by decide) rfl ?_
  intro p e s m args below meth c s₁ B hml hv
  obtain ⟨rfl, hsz, hP, hK, hD0, hE⟩ := hv
  have hx := B.exec
  have hb := B.bytes
  have hr := B.returns
  have hts := atoms_spec (ws := wsX0_answerLifetime) B.pre
  have hown : s.vm.findClass RX0 = some m.cls := findClass_of_methodNamed B.named
  have hlocks := B.notSynchronized
  subst hsz
  have hD := hD0.self (sz := s.heap.size)
  have hA : ∀ q : Nat, s.heap.size ≤ q → (va_A (cN T x1 x2 x3 N f g) s.heap.size) q := fun q h => Or.inr h
  have hS : va_S (va_A (cN T x1 x2 x3 N f g) s.heap.size) s.heap s.heap [] := va_S.rf
  have hiRX0 : ∀ w ∈ u_ws RX0 TX0 11, w ∈ wsX0_answerLifetime := by decide +kernel
  have hl := lv_entry ([.ref x1]) (n := 1) (Nat.le_of_ble_eq_true rfl)
  rw [lg_entry_eq]
  generalize (lg_sl ([.ref x1]) ++ List.replicate (1 - (lg_sl ([.ref x1])).length) Slot.unset).toArray = ls at hl ⊢
  have hl : lv_has ls 1 [(0, .ref x1)] := hl
  have hP : va_P G vwCl (cN T x1 x2 x3 N f g) s.heap := hP
  refine lv_aload_n hx hb dX0_answerLifetime_0 rfl (lv_at hl 0 rfl) ?_
  refine gci (va_runV (As := []) (rest := []) ⟨hx, hb, hml, hown, hts⟩ (kX0_hasRecord l G T x1 x2 x3 N f g _) (cwV 0 hts gX0_answerLifetime_X0_hasRecord rfl rfl rfl (by decide +kernel) ⟨Nat.le_of_ble_eq_true rfl, Nat.le_of_ble_eq_true rfl⟩) ⟨gblind, va_recv hK hP (ci := 0) (q0 := 0) rfl rfl, gpre hE hK hP hD hS hA [0, 1, 2] rfl rfl⟩ rfl rfl hl.1 rfl (lv_room (Nat.le_of_ble_eq_true rfl)) dX0_answerLifetime_1 ⟨Nat.le_of_ble_eq_true rfl, Nat.le_of_ble_eq_true rfl⟩) hP hD hS hA [0, 1, 2] rfl rfl (fun r9 H locs hw hP hD hS => ?_)
  have hP : va_P G vwCl (cN T x1 x2 x3 N f g) H := hP
  have hD : va_D (va_A (cN T x1 x2 x3 N f g) s.heap.size) (cN T x1 x2 x3 N f g) := hD
  subst hw
  refine lv_if_eq (tgt := 14) hx hb dX0_answerLifetime_4 (by decide) (fun c4 => ?_) (fun c4 => ?_)
  · skip
    refine lv_iconst (v := 5) hx hb dX0_answerLifetime_14 (by decide) ?_
    exact W.iret (v := 5) hx hb hr (fun t ht9 hW => ⟨⟨5, (), rfl, by simp [sLife, *], gBi ht9 (gfin hP (rfl))⟩, hS.F ht9⟩) hS.2.2 dX0_answerLifetime_15
  · skip
    refine lv_aload_n hx hb dX0_answerLifetime_7 rfl (lv_at hl 0 rfl) ?_
    refine va_get (D := G) (ci := 0) (v := .int (N 5)) (C := RX0) (T := TX0) (N := 11) hx hb hts hiRX0 hown hK hP 0 rfl rfl 5 (by decide) (hts (.fieldLink RX0 37 "NameAuction$Name" "lifetime" "I") (by decide +kernel)) (fun _ h9 => h9) rfl dX0_answerLifetime_8 ?_
    refine lv_goto (tgt := 15) hx hb dX0_answerLifetime_11 (by decide) ?_
    exact W.iret (v := N 5) hx hb hr (fun t ht9 hW => ⟨⟨N 5, (), rfl, by simp [sLife, *], gBi ht9 (gfin hP (rfl))⟩, hS.F ht9⟩) hS.2.2 dX0_answerLifetime_15
abbrev PX0_countBids (G : va_G) (T : Nat → ClassId) (x1 x2 x3 : Nat) (N f g : Nat → Int32) (sz : Nat) : Array Value → State → Prop := gPc G T [.ref x1] (cN T x1 x2 x3 N f g) sz
abbrev QX0_countBids (G : va_G) (T : Nat → ClassId) (x1 x2 x3 : Nat) (N f g : Nat → Int32) (sz : Nat) : Array Value → State → Outcome → State → Prop := va_Qi (fun (r : Int32) (_ : Unit) => r = sCnt f 6) (gB G (cN T x1 x2 x3 N f g)) (va_A (cN T x1 x2 x3 N f g) sz)
set_option maxHeartbeats 4000000 in
set_option maxRecDepth 100000 in
theorem kX0_countBids (l : Launch) (G : va_G) (T : Nat → ClassId) (x1 x2 x3 : Nat) (N f g : Nat → Int32) (sz : Nat)  : Met l yX0_countBids wsX0_countBids ({ frames := 0, cells := 0, slots := 0, locals := 0 } : Room) (PX0_countBids G T x1 x2 x3 N f g sz) (QX0_countBids G T x1 x2 x3 N f g sz) 0 0 (va_A (cN T x1 x2 x3 N f g) sz) := by
  refine Met.ofW (cc := cX0_countBids) (maxL := 3) (ret := (some .int)) (by decide) rfl ?_
  intro p e s m args below meth c s₁ B hml hv
  obtain ⟨rfl, hsz, hP, hK, hD0, hE⟩ := hv
  have hx := B.exec
  have hb := B.bytes
  have hr := B.returns
  have hts := atoms_spec (ws := wsX0_countBids) B.pre
  have hown : s.vm.findClass RX0 = some m.cls := findClass_of_methodNamed B.named
  have hlocks := B.notSynchronized
  subst hsz
  have hD := hD0.self (sz := s.heap.size)
  have hA : ∀ q : Nat, s.heap.size ≤ q → (va_A (cN T x1 x2 x3 N f g) s.heap.size) q := fun q h => Or.inr h
  have hS : va_S (va_A (cN T x1 x2 x3 N f g) s.heap.size) s.heap s.heap [] := va_S.rf
  have hiRX0 : ∀ w ∈ u_ws RX0 TX0 11, w ∈ wsX0_countBids := by decide +kernel
  have hl := lv_entry ([.ref x1]) (n := 3) (Nat.le_of_ble_eq_true rfl)
  rw [lg_entry_eq]
  generalize (lg_sl ([.ref x1]) ++ List.replicate (3 - (lg_sl ([.ref x1])).length) Slot.unset).toArray = ls at hl ⊢
  have hl : lv_has ls 3 [(0, .ref x1)] := hl
  have hP : va_P G vwCl (cN T x1 x2 x3 N f g) s.heap := hP
  refine lv_iconst (v := 0) hx hb dX0_countBids_0 (by decide) ?_
  refine lv_istore_n (lv' := [(1, .int 0), (0, .ref x1)]) hx hb dX0_countBids_1 rfl hl (by decide) rfl (fun ls hl => ?_)
  refine lv_iconst (v := 0) hx hb dX0_countBids_2 (by decide) ?_
  refine lv_istore_n (lv' := [(2, .int 0), (1, .int 0), (0, .ref x1)]) hx hb dX0_countBids_3 rfl hl (by decide) rfl (fun ls hl => ?_)
  have J4 : ∀ n9 : Nat, ∀ (i : Nat) (H : Heap) (locs : List Loc) (ls : Array Slot), i ≤ 6 → 7 ≤ i + n9 → va_P G vwCl (cN T x1 x2 x3 N f g) H → va_D (va_A (cN T x1 x2 x3 N f g) s.heap.size) (cN T x1 x2 x3 N f g) → va_S (va_A (cN T x1 x2 x3 N f g) s.heap.size) s.heap H locs → lv_has ls 3 [(0, .ref x1), (1, .int (sCnt f i)), (2, .int (nI i))] → W p l e (headSpec wsX0_countBids ({ frames := 0, cells := 0, slots := 0, locals := 0 } : Room)).room s m ([.ref x1] : List Value).toArray below meth c H locs 0 0 (MQ below (QX0_countBids G T x1 x2 x3 N f g s.heap.size) ([.ref x1] : List Value).toArray s 0 0 (va_A (cN T x1 x2 x3 N f g) s.heap.size)) (F0 m 4 ls []) := by
    intro n9
    induction n9 with
    | zero => intro i H locs ls hi hm hP hD hS hl; exact absurd (hm) (by omega)
    | succ n9 ih =>
      intro i H locs ls hi hm hP hD hS hl
      refine lv_iload_n hx hb dX0_countBids_4 rfl (lv_at hl 2 rfl) ?_
      refine lv_bipush (v := 6) hx hb dX0_countBids_5 (by decide) ?_
      refine lv_icmp_ge (tgt := 33) hx hb dX0_countBids_7 (by decide) (fun c7 => ?_) (fun c7 => ?_)
      · skip
        have hge : i = 6 := by
          rcases Nat.lt_or_ge i 6 with q | q
          · exact absurd c7 (nI_ge (b := 6) q (by omega))
          · omega
        refine lv_iload_n hx hb dX0_countBids_33 rfl (lv_at hl 1 rfl) ?_
        exact W.iret (v := sCnt f i) hx hb hr (fun t ht9 hW => ⟨⟨sCnt f i, (), rfl, by rw [hge], gBi ht9 (gfin hP (rfl))⟩, hS.F ht9⟩) hS.2.2 dX0_countBids_34
      · skip
        have hlt : i < 6 := by
          rcases Nat.lt_or_ge i 6 with q | q
          · exact q
          · exact absurd (show (6 : Int32) ≤ nI i from nI_le (a := 6) q (by omega)) c7
        refine lv_iload_n hx hb dX0_countBids_10 rfl (lv_at hl 1 rfl) ?_
        refine lv_aload_n hx hb dX0_countBids_11 rfl (lv_at hl 0 rfl) ?_
        refine va_get (D := G) (ci := 0) (v := .ref x2) (C := RX0) (T := TX0) (N := 11) hx hb hts hiRX0 hown hK hP 0 rfl rfl 9 (by decide) (hts (.fieldLink RX0 18 "NameAuction$Name" "amounts" "[I") (by decide +kernel)) (fun _ h9 => h9) rfl dX0_countBids_12 ?_
        refine lv_iload_n hx hb dX0_countBids_15 rfl (lv_at hl 2 rfl) ?_
        refine giald (j := i) hx hb hK hP 1 0 rfl rfl (show (nI i : Int32) = nI i from rfl) (by omega) (by decide) dX0_countBids_16 ?_
        refine lv_if_le (tgt := 24) hx hb dX0_countBids_17 (by decide) (fun c17 => ?_) (fun c17 => ?_)
        · skip
          refine lv_iconst (v := 0) hx hb dX0_countBids_24 (by decide) ?_
          refine lv_iadd hx hb dX0_countBids_25 ?_
          refine gtop (y := sCnt f (i + 1)) (by simp [sCnt, *]) ?_
          refine lv_istore_n (lv' := [(1, .int (sCnt f (i + 1))), (0, .ref x1), (2, .int (nI i))]) hx hb dX0_countBids_26 rfl hl (by decide) rfl (fun ls hl => ?_)
          refine lv_iinc (v := nI (i + 1)) (lv' := [(2, .int (nI (i + 1))), (1, .int (sCnt f (i + 1))), (0, .ref x1)]) hx hb dX0_countBids_27 hl (k := 2) rfl (by first | rfl | exact (nI_add i 1)) (by decide) rfl (fun ls hl => ?_)
          refine lv_goto (tgt := 4) hx hb dX0_countBids_30 (by decide) ?_
          have hl := hl
          exact ih (i + 1) _ _ _ (by omega) (by omega) hP hD hS (lv_sub hl [2, 1, 0] rfl)
        · skip
          refine lv_iconst (v := 1) hx hb dX0_countBids_20 (by decide) ?_
          refine lv_goto (tgt := 25) hx hb dX0_countBids_21 (by decide) ?_
          refine lv_iadd hx hb dX0_countBids_25 ?_
          refine gtop (y := sCnt f (i + 1)) (by simp [sCnt, *]) ?_
          refine lv_istore_n (lv' := [(1, .int (sCnt f (i + 1))), (0, .ref x1), (2, .int (nI i))]) hx hb dX0_countBids_26 rfl hl (by decide) rfl (fun ls hl => ?_)
          refine lv_iinc (v := nI (i + 1)) (lv' := [(2, .int (nI (i + 1))), (1, .int (sCnt f (i + 1))), (0, .ref x1)]) hx hb dX0_countBids_27 hl (k := 2) rfl (by first | rfl | exact (nI_add i 1)) (by decide) rfl (fun ls hl => ?_)
          refine lv_goto (tgt := 4) hx hb dX0_countBids_30 (by decide) ?_
          have hl := hl
          exact ih (i + 1) _ _ _ (by omega) (by omega) hP hD hS (lv_sub hl [2, 1, 0] rfl)
  have hl := hl
  exact J4 7 0 _ _ _ (by omega) (by omega) hP hD hS (lv_sub hl [2, 1, 0] rfl)
end
