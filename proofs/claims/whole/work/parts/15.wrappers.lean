/-! THE LAW'S OWN CALLS of the class: what is thrown is caught and told by a number -/
theorem pK_no {k : Nat} (h : k = 0) {n : Nat} (h2 : k = n + 1) : False := by omega
abbrev PL_deposit_ok (G : va_G) (T : Nat → ClassId) (na mo nm rs : Nat) (D mny : Nat → Int32) (nA rA : Nat → Nat) (p0 p1 : Int32) (i : Nat) (yo : Nat) (h0 : Nat → Int64) (sz : Nat) : Array Value → State → Prop := gPc G T [.ref na, .int p0, .int p1, .ref yo] (([(yo, .inl (T 4, 1, .inr (.inl h0)))]) ++ (cA T na mo nm rs D mny nA rA)) sz
abbrev QL_deposit_ok (G : va_G) (T : Nat → ClassId) (na mo nm rs : Nat) (D mny : Nat → Int32) (nA rA : Nat → Nat) (p0 p1 : Int32) (i : Nat) (yo : Nat) (h0 : Nat → Int64) (sz : Nat) : Array Value → State → Outcome → State → Prop := va_Qi (fun (r : Int32) (_ : Unit) => r = 0) (gB G (([(yo, .inl (T 4, 1, .inr (.inl (vp_updL h0 0 ((mny i + p1).toInt64)))))]) ++ (cA T na mo nm rs D (upd mny i (mny i + p1)) nA rA))) (va_A (([(yo, .inl (T 4, 1, .inr (.inl h0)))]) ++ (cA T na mo nm rs D mny nA rA)) sz)
set_option maxHeartbeats 4000000 in
set_option maxRecDepth 100000 in
theorem kL_deposit_ok (l : Launch) (hl0 : l.stackTraces = false) (G : va_G) (T : Nat → ClassId) (na mo nm rs : Nat) (D mny : Nat → Int32) (nA rA : Nat → Nat) (p0 p1 : Int32) (i : Nat) (yo : Nat) (h0 : Nat → Int64) (sz : Nat) (hi : okI p0 6 = true → p0 = nI i ∧ i < 6) (hk : (kDep p0 p1) = 0) : Met l yL_deposit wsL_deposit ({ frames := 8, cells := 2, slots := 12, locals := 125 } : Room) (PL_deposit_ok G T na mo nm rs D mny nA rA p0 p1 i yo h0 sz) (QL_deposit_ok G T na mo nm rs D mny nA rA p0 p1 i yo h0 sz) 2 12 (va_A (([(yo, .inl (T 4, 1, .inr (.inl h0)))]) ++ (cA T na mo nm rs D mny nA rA)) sz) := by
  refine va_MetW (cc := cL_deposit) (maxL := 5) (ret := (some .int)) (hh := [(0, 10, 13, 13), (0, 10, 17, 15)]) (by decide) rfl ?_
  intro p e s m args below meth c s₁ B hml hv
  obtain ⟨rfl, hsz, hP, hK, hD0, hE⟩ := hv
  have hx := B.exec
  have hb := B.bytes
  have hr := B.returns
  have hts := atoms_spec (ws := wsL_deposit) B.pre
  have hown : s.vm.findClass RL = some m.cls := findClass_of_methodNamed B.named
  have hlocks := B.notSynchronized
  have htab : c.exceptionTable.toList = tableOf [(0, 10, 13, 13), (0, 10, 17, 15)] := vx_table (x := yL_deposit) B (hts _ List.mem_cons_self)
  subst hsz
  have hD := hD0.self (sz := s.heap.size)
  have hA : ∀ q : Nat, s.heap.size ≤ q → (va_A (([(yo, .inl (T 4, 1, .inr (.inl h0)))]) ++ (cA T na mo nm rs D mny nA rA)) s.heap.size) q := fun q h => Or.inr h
  have hS : va_S (va_A (([(yo, .inl (T 4, 1, .inr (.inl h0)))]) ++ (cA T na mo nm rs D mny nA rA)) s.heap.size) s.heap s.heap [] := va_S.rf
  have hl := lv_entry ([.ref na, .int p0, .int p1, .ref yo]) (n := 5) (Nat.le_of_ble_eq_true rfl)
  rw [lg_entry_eq]
  generalize (lg_sl ([.ref na, .int p0, .int p1, .ref yo]) ++ List.replicate (5 - (lg_sl ([.ref na, .int p0, .int p1, .ref yo])).length) Slot.unset).toArray = ls at hl ⊢
  have hl : lv_has ls 5 [(0, .ref na), (1, .int p0), (2, .int p1), (3, .ref yo)] := hl
  have hP : va_P G vwCl (([(yo, .inl (T 4, 1, .inr (.inl h0)))]) ++ (cA T na mo nm rs D mny nA rA)) s.heap := hP
  refine lv_aload_n hx hb dL_deposit_0 rfl (lv_at hl 3 rfl) ?_
  refine lv_iconst (v := 0) hx hb dL_deposit_1 (by decide) ?_
  refine lv_aload_n hx hb dL_deposit_2 rfl (lv_at hl 0 rfl) ?_
  refine lv_iload_n hx hb dL_deposit_3 rfl (lv_at hl 1 rfl) ?_
  refine lv_iload_n hx hb dL_deposit_4 rfl (lv_at hl 2 rfl) ?_
  refine gxi (vx_runV (As := [.int p0, .int p1]) (rest := [.int 0, .ref yo]) ⟨hx, hb, hml, hown, hts⟩ (kX2_deposit l hl0 G T na mo nm rs D mny nA rA p0 p1 i _ hi) (cwV 2 hts gL_deposit_X2_deposit rfl rfl rfl (by decide +kernel) ⟨Nat.le_of_ble_eq_true rfl, Nat.le_of_ble_eq_true rfl⟩) ⟨gblind, va_recv hK hP (ci := 2) (q0 := 1) rfl rfl, gpre hE hK hP hD hS hA [1, 2, 3, 4] rfl rfl⟩ rfl rfl hl.1 rfl (lv_room (Nat.le_of_ble_eq_true rfl)) dL_deposit_5 ⟨Nat.le_of_ble_eq_true rfl, Nat.le_of_ble_eq_true rfl⟩) hP hD hS hA [1, 2, 3, 4] rfl rfl (fun E9 ce9 q9 H locs he hP hD hS hce hcv hcl => ?_) (fun r9 H locs hw hP hD hS => ?_)
  · skip
    have hP : va_P G vwCl (([(yo, .inl (T 4, 1, .inr (.inl h0)))]) ++ (cA T na mo nm rs D mny nA rA)) H := hP
    have hD : va_D (va_A (([(yo, .inl (T 4, 1, .inr (.inl h0)))]) ++ (cA T na mo nm rs D mny nA rA)) s.heap.size) (([(yo, .inl (T 4, 1, .inr (.inl h0)))]) ++ (cA T na mo nm rs D mny nA rA)) := hD
    rcases he with ⟨hk9, rfl⟩ | ⟨hk9, rfl⟩ | ⟨hk9, rfl⟩
    · skip
      exact absurd (hk.symm.trans hk9) (by decide)
    · skip
      exact absurd (hk.symm.trans hk9) (by decide)
    · skip
      exact absurd (hk.symm.trans hk9) (by decide)
  · skip
    have hP : va_P G vwCl (([(yo, .inl (T 4, 1, .inr (.inl h0)))]) ++ (cA T na mo nm rs D (upd mny i (mny i + p1)) nA rA)) H := hP
    have hD : va_D (va_A (([(yo, .inl (T 4, 1, .inr (.inl h0)))]) ++ (cA T na mo nm rs D mny nA rA)) s.heap.size) (([(yo, .inl (T 4, 1, .inr (.inl h0)))]) ++ (cA T na mo nm rs D (upd mny i (mny i + p1)) nA rA)) := hD
    obtain ⟨hok5, hw⟩ := hw
    subst hw
    refine lv_i2l (v := (mny i + p1).toInt64) hx hb dL_deposit_8 rfl ?_
    refine glast (j := 0) hx hb hK hP hD hS 0 4 rfl rfl (show (0 : Int32) = nI 0 from rfl) (by omega) (by decide) dL_deposit_9 (fun H locs hP hD hS => ?_)
    have hP : va_P G vwCl (([(yo, .inl (T 4, 1, .inr (.inl (vp_updL h0 0 ((mny i + p1).toInt64)))))]) ++ (cA T na mo nm rs D (upd mny i (mny i + p1)) nA rA)) H := hP
    have hD : va_D (va_A (([(yo, .inl (T 4, 1, .inr (.inl h0)))]) ++ (cA T na mo nm rs D mny nA rA)) s.heap.size) (([(yo, .inl (T 4, 1, .inr (.inl (vp_updL h0 0 ((mny i + p1).toInt64)))))]) ++ (cA T na mo nm rs D (upd mny i (mny i + p1)) nA rA)) := hD
    refine lv_goto (tgt := 21) hx hb dL_deposit_10 (by decide) ?_
    refine lv_iconst (v := 0) hx hb dL_deposit_21 (by decide) ?_
    exact W.iret (v := 0) hx hb hr (fun t ht9 hW => ⟨⟨0, (), rfl, rfl, gBi ht9 (gfin hP (rfl))⟩, hS.F ht9⟩) hS.2.2 dL_deposit_22
abbrev PL_deposit_no (G : va_G) (T : Nat → ClassId) (na mo nm rs : Nat) (D mny : Nat → Int32) (nA rA : Nat → Nat) (p0 p1 : Int32) (i : Nat) (yo : Nat) (h0 : Nat → Int64) (sz : Nat) : Array Value → State → Prop := gPc G T [.ref na, .int p0, .int p1, .ref yo] (([(yo, .inl (T 4, 1, .inr (.inl h0)))]) ++ (cA T na mo nm rs D mny nA rA)) sz
abbrev QL_deposit_no (G : va_G) (T : Nat → ClassId) (na mo nm rs : Nat) (D mny : Nat → Int32) (nA rA : Nat → Nat) (p0 p1 : Int32) (i : Nat) (yo : Nat) (h0 : Nat → Int64) (sz : Nat) : Array Value → State → Outcome → State → Prop := va_Qi (fun (r : Int32) (_ : Unit) => r = w3 (kDep p0 p1)) (gB G (([(yo, .inl (T 4, 1, .inr (.inl h0)))]) ++ (cA T na mo nm rs D mny nA rA))) (va_A (([(yo, .inl (T 4, 1, .inr (.inl h0)))]) ++ (cA T na mo nm rs D mny nA rA)) sz)
set_option maxHeartbeats 4000000 in
set_option maxRecDepth 100000 in
theorem kL_deposit_no (l : Launch) (hl0 : l.stackTraces = false) (G : va_G) (T : Nat → ClassId) (na mo nm rs : Nat) (D mny : Nat → Int32) (nA rA : Nat → Nat) (p0 p1 : Int32) (i : Nat) (yo : Nat) (h0 : Nat → Int64) (sz : Nat) (hi : okI p0 6 = true → p0 = nI i ∧ i < 6) (hk : ¬ (kDep p0 p1) = 0) : Met l yL_deposit wsL_deposit ({ frames := 8, cells := 2, slots := 12, locals := 125 } : Room) (PL_deposit_no G T na mo nm rs D mny nA rA p0 p1 i yo h0 sz) (QL_deposit_no G T na mo nm rs D mny nA rA p0 p1 i yo h0 sz) 2 12 (va_A (([(yo, .inl (T 4, 1, .inr (.inl h0)))]) ++ (cA T na mo nm rs D mny nA rA)) sz) := by
  refine va_MetW (cc := cL_deposit) (maxL := 5) (ret := (some .int)) (hh := [(0, 10, 13, 13), (0, 10, 17, 15)]) (by decide) rfl ?_
  intro p e s m args below meth c s₁ B hml hv
  obtain ⟨rfl, hsz, hP, hK, hD0, hE⟩ := hv
  have hx := B.exec
  have hb := B.bytes
  have hr := B.returns
  have hts := atoms_spec (ws := wsL_deposit) B.pre
  have hown : s.vm.findClass RL = some m.cls := findClass_of_methodNamed B.named
  have hlocks := B.notSynchronized
  have htab : c.exceptionTable.toList = tableOf [(0, 10, 13, 13), (0, 10, 17, 15)] := vx_table (x := yL_deposit) B (hts _ List.mem_cons_self)
  subst hsz
  have hD := hD0.self (sz := s.heap.size)
  have hA : ∀ q : Nat, s.heap.size ≤ q → (va_A (([(yo, .inl (T 4, 1, .inr (.inl h0)))]) ++ (cA T na mo nm rs D mny nA rA)) s.heap.size) q := fun q h => Or.inr h
  have hS : va_S (va_A (([(yo, .inl (T 4, 1, .inr (.inl h0)))]) ++ (cA T na mo nm rs D mny nA rA)) s.heap.size) s.heap s.heap [] := va_S.rf
  have hl := lv_entry ([.ref na, .int p0, .int p1, .ref yo]) (n := 5) (Nat.le_of_ble_eq_true rfl)
  rw [lg_entry_eq]
  generalize (lg_sl ([.ref na, .int p0, .int p1, .ref yo]) ++ List.replicate (5 - (lg_sl ([.ref na, .int p0, .int p1, .ref yo])).length) Slot.unset).toArray = ls at hl ⊢
  have hl : lv_has ls 5 [(0, .ref na), (1, .int p0), (2, .int p1), (3, .ref yo)] := hl
  have hP : va_P G vwCl (([(yo, .inl (T 4, 1, .inr (.inl h0)))]) ++ (cA T na mo nm rs D mny nA rA)) s.heap := hP
  refine lv_aload_n hx hb dL_deposit_0 rfl (lv_at hl 3 rfl) ?_
  refine lv_iconst (v := 0) hx hb dL_deposit_1 (by decide) ?_
  refine lv_aload_n hx hb dL_deposit_2 rfl (lv_at hl 0 rfl) ?_
  refine lv_iload_n hx hb dL_deposit_3 rfl (lv_at hl 1 rfl) ?_
  refine lv_iload_n hx hb dL_deposit_4 rfl (lv_at hl 2 rfl) ?_
  refine gxi (vx_runV (As := [.int p0, .int p1]) (rest := [.int 0, .ref yo]) ⟨hx, hb, hml, hown, hts⟩ (kX2_deposit l hl0 G T na mo nm rs D mny nA rA p0 p1 i _ hi) (cwV 2 hts gL_deposit_X2_deposit rfl rfl rfl (by decide +kernel) ⟨Nat.le_of_ble_eq_true rfl, Nat.le_of_ble_eq_true rfl⟩) ⟨gblind, va_recv hK hP (ci := 2) (q0 := 1) rfl rfl, gpre hE hK hP hD hS hA [1, 2, 3, 4] rfl rfl⟩ rfl rfl hl.1 rfl (lv_room (Nat.le_of_ble_eq_true rfl)) dL_deposit_5 ⟨Nat.le_of_ble_eq_true rfl, Nat.le_of_ble_eq_true rfl⟩) hP hD hS hA [1, 2, 3, 4] rfl rfl (fun E9 ce9 q9 H locs he hP hD hS hce hcv hcl => ?_) (fun r9 H locs hw hP hD hS => ?_)
  · skip
    have hP : va_P G vwCl (([(yo, .inl (T 4, 1, .inr (.inl h0)))]) ++ (cA T na mo nm rs D mny nA rA)) H := hP
    have hD : va_D (va_A (([(yo, .inl (T 4, 1, .inr (.inl h0)))]) ++ (cA T na mo nm rs D mny nA rA)) s.heap.size) (([(yo, .inl (T 4, 1, .inr (.inl h0)))]) ++ (cA T na mo nm rs D mny nA rA)) := hD
    rcases he with ⟨hk9, rfl⟩ | ⟨hk9, rfl⟩ | ⟨hk9, rfl⟩
    · skip
      refine vx_catch (own := RL) (name := "java/lang/IndexOutOfBoundsException") hown [] ⟨0, 10, 13, 13⟩ [⟨0, 10, 17, 15⟩] (htab.trans rfl) (fun z hz => nomatch hz) rfl (by decide) (hts (.classLink RL 13 "java/lang/IndexOutOfBoundsException") (by decide +kernel)) (va_Nw.use rfl (hE.1 (.castable "java/lang/IndexOutOfBoundsException" "java/lang/IndexOutOfBoundsException") (by decide +kernel))) hce hcv hcl ?_
      refine lv_astore (lv' := [(4, .ref q9), (0, .ref na), (1, .int p0), (2, .int p1), (3, .ref yo)]) hx hb dL_deposit_13 hl (by decide) rfl (fun ls hl => ?_)
      refine lv_iconst (v := 1) hx hb dL_deposit_15 (by decide) ?_
      exact W.iret (v := 1) hx hb hr (fun t ht9 hW => ⟨⟨1, (), rfl, by rw [hk9]; rfl, gBi ht9 (gfin hP (rfl))⟩, hS.F ht9⟩) hS.2.2 dL_deposit_16
    · skip
      refine vx_catch (own := RL) (name := "java/lang/IllegalArgumentException") hown [⟨0, 10, 13, 13⟩] ⟨0, 10, 17, 15⟩ [] (htab.trans rfl) (fun z hz => by cases List.mem_singleton.mp hz; exact Or.inr ⟨by decide, "java/lang/IndexOutOfBoundsException", hts (.classLink RL 13 "java/lang/IndexOutOfBoundsException") (by decide +kernel), hE.2.1.1⟩) rfl (by decide) (hts (.classLink RL 15 "java/lang/IllegalArgumentException") (by decide +kernel)) (va_Nw.use rfl (hE.1 (.castable "java/lang/IllegalArgumentException" "java/lang/IllegalArgumentException") (by decide +kernel))) hce hcv hcl ?_
      refine lv_astore (lv' := [(4, .ref q9), (0, .ref na), (1, .int p0), (2, .int p1), (3, .ref yo)]) hx hb dL_deposit_17 hl (by decide) rfl (fun ls hl => ?_)
      refine lv_iconst (v := 2) hx hb dL_deposit_19 (by decide) ?_
      exact W.iret (v := 2) hx hb hr (fun t ht9 hW => ⟨⟨2, (), rfl, by rw [hk9]; rfl, gBi ht9 (gfin hP (rfl))⟩, hS.F ht9⟩) hS.2.2 dL_deposit_20
    · skip
      exact absurd hk9 (by simp only [kDep]; repeat (first | split | decide))
  · skip
    have hP : va_P G vwCl (([(yo, .inl (T 4, 1, .inr (.inl h0)))]) ++ (cA T na mo nm rs D (upd mny i (mny i + p1)) nA rA)) H := hP
    have hD : va_D (va_A (([(yo, .inl (T 4, 1, .inr (.inl h0)))]) ++ (cA T na mo nm rs D mny nA rA)) s.heap.size) (([(yo, .inl (T 4, 1, .inr (.inl h0)))]) ++ (cA T na mo nm rs D (upd mny i (mny i + p1)) nA rA)) := hD
    exact absurd hw.1 hk
abbrev PL_bid_ok (G : va_G) (T : Nat → ClassId) (na mo nm rs : Nat) (D mny : Nat → Int32) (nA rA : Nat → Nat) (j x2 x3 : Nat) (N f g : Nat → Int32) (p0 p1 p2 : Int32) (i : Nat) (yo : Nat) (h0 : Nat → Int64) (sz : Nat) : Array Value → State → Prop := gPc G T [.ref na, .int p0, .int p1, .int p2, .ref yo] (([(yo, .inl (T 4, 1, .inr (.inl h0)))]) ++ (cA T na mo nm rs D mny nA rA) ++ (cN T (nA j) x2 x3 N f g)) sz
abbrev QL_bid_ok (G : va_G) (T : Nat → ClassId) (na mo nm rs : Nat) (D mny : Nat → Int32) (nA rA : Nat → Nat) (j x2 x3 : Nat) (N f g : Nat → Int32) (p0 p1 p2 : Int32) (i : Nat) (yo : Nat) (h0 : Nat → Int64) (sz : Nat) : Array Value → State → Outcome → State → Prop := va_Qi (fun (r : Int32) (_ : Unit) => r = 0) (gB G (([(yo, .inl (T 4, 1, .inr (.inl (vp_updL h0 0 ((sBidN N D 2).toInt64)))))]) ++ (cA T na mo nm rs (upd D 5 (D 5 + 1)) mny nA rA) ++ (cN T (nA j) x2 x3 (sBidN N D) (upd f i p2) (upd g i (D 5 + 1))))) (va_A (([(yo, .inl (T 4, 1, .inr (.inl h0)))]) ++ (cA T na mo nm rs D mny nA rA) ++ (cN T (nA j) x2 x3 N f g)) sz)
set_option maxHeartbeats 4000000 in
set_option maxRecDepth 100000 in
theorem kL_bid_ok (l : Launch) (hl0 : l.stackTraces = false) (G : va_G) (T : Nat → ClassId) (na mo nm rs : Nat) (D mny : Nat → Int32) (nA rA : Nat → Nat) (j x2 x3 : Nat) (N f g : Nat → Int32) (p0 p1 p2 : Int32) (i : Nat) (yo : Nat) (h0 : Nat → Int64) (sz : Nat) (hi : okI p0 6 = true → p0 = nI i ∧ i < 6) (hj : okI p1 16 = true → p1 = nI j ∧ j < 16) (hk : (kBid p0 p1 p2 N) = 0) : Met l yL_bid wsL_bid ({ frames := 8, cells := 4, slots := 24, locals := 127 } : Room) (PL_bid_ok G T na mo nm rs D mny nA rA j x2 x3 N f g p0 p1 p2 i yo h0 sz) (QL_bid_ok G T na mo nm rs D mny nA rA j x2 x3 N f g p0 p1 p2 i yo h0 sz) 4 24 (va_A (([(yo, .inl (T 4, 1, .inr (.inl h0)))]) ++ (cA T na mo nm rs D mny nA rA) ++ (cN T (nA j) x2 x3 N f g)) sz) := by
  refine va_MetW (cc := cL_bid) (maxL := 6) (ret := (some .int)) (hh := [(0, 12, 15, 13), (0, 12, 19, 15), (0, 12, 23, 25)]) (by decide) rfl ?_
  intro p e s m args below meth c s₁ B hml hv
  obtain ⟨rfl, hsz, hP, hK, hD0, hE⟩ := hv
  have hx := B.exec
  have hb := B.bytes
  have hr := B.returns
  have hts := atoms_spec (ws := wsL_bid) B.pre
  have hown : s.vm.findClass RL = some m.cls := findClass_of_methodNamed B.named
  have hlocks := B.notSynchronized
  have htab : c.exceptionTable.toList = tableOf [(0, 12, 15, 13), (0, 12, 19, 15), (0, 12, 23, 25)] := vx_table (x := yL_bid) B (hts _ List.mem_cons_self)
  subst hsz
  have hD := hD0.self (sz := s.heap.size)
  have hA : ∀ q : Nat, s.heap.size ≤ q → (va_A (([(yo, .inl (T 4, 1, .inr (.inl h0)))]) ++ (cA T na mo nm rs D mny nA rA) ++ (cN T (nA j) x2 x3 N f g)) s.heap.size) q := fun q h => Or.inr h
  have hS : va_S (va_A (([(yo, .inl (T 4, 1, .inr (.inl h0)))]) ++ (cA T na mo nm rs D mny nA rA) ++ (cN T (nA j) x2 x3 N f g)) s.heap.size) s.heap s.heap [] := va_S.rf
  have hl := lv_entry ([.ref na, .int p0, .int p1, .int p2, .ref yo]) (n := 6) (Nat.le_of_ble_eq_true rfl)
  rw [lg_entry_eq]
  generalize (lg_sl ([.ref na, .int p0, .int p1, .int p2, .ref yo]) ++ List.replicate (6 - (lg_sl ([.ref na, .int p0, .int p1, .int p2, .ref yo])).length) Slot.unset).toArray = ls at hl ⊢
  have hl : lv_has ls 6 [(0, .ref na), (1, .int p0), (2, .int p1), (3, .int p2), (4, .ref yo)] := hl
  have hP : va_P G vwCl (([(yo, .inl (T 4, 1, .inr (.inl h0)))]) ++ (cA T na mo nm rs D mny nA rA) ++ (cN T (nA j) x2 x3 N f g)) s.heap := hP
  refine lv_aload hx hb dL_bid_0 (lv_at hl 4 rfl) ?_
  refine lv_iconst (v := 0) hx hb dL_bid_2 (by decide) ?_
  refine lv_aload_n hx hb dL_bid_3 rfl (lv_at hl 0 rfl) ?_
  refine lv_iload_n hx hb dL_bid_4 rfl (lv_at hl 1 rfl) ?_
  refine lv_iload_n hx hb dL_bid_5 rfl (lv_at hl 2 rfl) ?_
  refine lv_iload_n hx hb dL_bid_6 rfl (lv_at hl 3 rfl) ?_
  refine gxi (vx_runV (As := [.int p0, .int p1, .int p2]) (rest := [.int 0, .ref yo]) ⟨hx, hb, hml, hown, hts⟩ (kX2_bid l hl0 G T na mo nm rs D mny nA rA j x2 x3 N f g p0 p1 p2 i _ hi hj) (cwV 3 hts gL_bid_X2_bid rfl rfl rfl (by decide +kernel) ⟨Nat.le_of_ble_eq_true rfl, Nat.le_of_ble_eq_true rfl⟩) ⟨gblind, va_recv hK hP (ci := 2) (q0 := 1) rfl rfl, gpre hE hK hP hD hS hA [1, 2, 3, 4, 5, 6, 7] rfl rfl⟩ rfl rfl hl.1 rfl (lv_room (Nat.le_of_ble_eq_true rfl)) dL_bid_7 ⟨Nat.le_of_ble_eq_true rfl, Nat.le_of_ble_eq_true rfl⟩) hP hD hS hA [1, 2, 3, 4, 5, 6, 7] rfl rfl (fun E9 ce9 q9 H locs he hP hD hS hce hcv hcl => ?_) (fun r9 H locs hw hP hD hS => ?_)
  · skip
    have hP : va_P G vwCl (([(yo, .inl (T 4, 1, .inr (.inl h0)))]) ++ (cA T na mo nm rs D mny nA rA) ++ (cN T (nA j) x2 x3 N f g)) H := hP
    have hD : va_D (va_A (([(yo, .inl (T 4, 1, .inr (.inl h0)))]) ++ (cA T na mo nm rs D mny nA rA) ++ (cN T (nA j) x2 x3 N f g)) s.heap.size) (([(yo, .inl (T 4, 1, .inr (.inl h0)))]) ++ (cA T na mo nm rs D mny nA rA) ++ (cN T (nA j) x2 x3 N f g)) := hD
    rcases he with ⟨hk9, rfl⟩ | ⟨hk9, rfl⟩ | ⟨hk9, rfl⟩
    · skip
      exact absurd (hk.symm.trans hk9) (by decide)
    · skip
      exact absurd (hk.symm.trans hk9) (by decide)
    · skip
      exact absurd (hk.symm.trans hk9) (by decide)
  · skip
    have hP : va_P G vwCl (([(yo, .inl (T 4, 1, .inr (.inl h0)))]) ++ (cA T na mo nm rs (upd D 5 (D 5 + 1)) mny nA rA) ++ (cN T (nA j) x2 x3 (sBidN N D) (upd f i p2) (upd g i (D 5 + 1)))) H := hP
    have hD : va_D (va_A (([(yo, .inl (T 4, 1, .inr (.inl h0)))]) ++ (cA T na mo nm rs D mny nA rA) ++ (cN T (nA j) x2 x3 N f g)) s.heap.size) (([(yo, .inl (T 4, 1, .inr (.inl h0)))]) ++ (cA T na mo nm rs (upd D 5 (D 5 + 1)) mny nA rA) ++ (cN T (nA j) x2 x3 (sBidN N D) (upd f i p2) (upd g i (D 5 + 1)))) := hD
    obtain ⟨hok7, hw⟩ := hw
    subst hw
    refine lv_i2l (v := (sBidN N D 2).toInt64) hx hb dL_bid_10 rfl ?_
    refine glast (j := 0) hx hb hK hP hD hS 0 4 rfl rfl (show (0 : Int32) = nI 0 from rfl) (by omega) (by decide) dL_bid_11 (fun H locs hP hD hS => ?_)
    have hP : va_P G vwCl (([(yo, .inl (T 4, 1, .inr (.inl (vp_updL h0 0 ((sBidN N D 2).toInt64)))))]) ++ (cA T na mo nm rs (upd D 5 (D 5 + 1)) mny nA rA) ++ (cN T (nA j) x2 x3 (sBidN N D) (upd f i p2) (upd g i (D 5 + 1)))) H := hP
    have hD : va_D (va_A (([(yo, .inl (T 4, 1, .inr (.inl h0)))]) ++ (cA T na mo nm rs D mny nA rA) ++ (cN T (nA j) x2 x3 N f g)) s.heap.size) (([(yo, .inl (T 4, 1, .inr (.inl (vp_updL h0 0 ((sBidN N D 2).toInt64)))))]) ++ (cA T na mo nm rs (upd D 5 (D 5 + 1)) mny nA rA) ++ (cN T (nA j) x2 x3 (sBidN N D) (upd f i p2) (upd g i (D 5 + 1)))) := hD
    refine lv_goto (tgt := 27) hx hb dL_bid_12 (by decide) ?_
    refine lv_iconst (v := 0) hx hb dL_bid_27 (by decide) ?_
    exact W.iret (v := 0) hx hb hr (fun t ht9 hW => ⟨⟨0, (), rfl, rfl, gBi ht9 (gfin hP (rfl))⟩, hS.F ht9⟩) hS.2.2 dL_bid_28
abbrev PL_bid_no (G : va_G) (T : Nat → ClassId) (na mo nm rs : Nat) (D mny : Nat → Int32) (nA rA : Nat → Nat) (j x2 x3 : Nat) (N f g : Nat → Int32) (p0 p1 p2 : Int32) (i : Nat) (yo : Nat) (h0 : Nat → Int64) (sz : Nat) : Array Value → State → Prop := gPc G T [.ref na, .int p0, .int p1, .int p2, .ref yo] (([(yo, .inl (T 4, 1, .inr (.inl h0)))]) ++ (cA T na mo nm rs D mny nA rA) ++ (cN T (nA j) x2 x3 N f g)) sz
abbrev QL_bid_no (G : va_G) (T : Nat → ClassId) (na mo nm rs : Nat) (D mny : Nat → Int32) (nA rA : Nat → Nat) (j x2 x3 : Nat) (N f g : Nat → Int32) (p0 p1 p2 : Int32) (i : Nat) (yo : Nat) (h0 : Nat → Int64) (sz : Nat) : Array Value → State → Outcome → State → Prop := va_Qi (fun (r : Int32) (_ : Unit) => r = w3 (kBid p0 p1 p2 N)) (gB G (([(yo, .inl (T 4, 1, .inr (.inl h0)))]) ++ (cA T na mo nm rs D mny nA rA) ++ (cN T (nA j) x2 x3 N f g))) (va_A (([(yo, .inl (T 4, 1, .inr (.inl h0)))]) ++ (cA T na mo nm rs D mny nA rA) ++ (cN T (nA j) x2 x3 N f g)) sz)
set_option maxHeartbeats 4000000 in
set_option maxRecDepth 100000 in
theorem kL_bid_no (l : Launch) (hl0 : l.stackTraces = false) (G : va_G) (T : Nat → ClassId) (na mo nm rs : Nat) (D mny : Nat → Int32) (nA rA : Nat → Nat) (j x2 x3 : Nat) (N f g : Nat → Int32) (p0 p1 p2 : Int32) (i : Nat) (yo : Nat) (h0 : Nat → Int64) (sz : Nat) (hi : okI p0 6 = true → p0 = nI i ∧ i < 6) (hj : okI p1 16 = true → p1 = nI j ∧ j < 16) (hk : ¬ (kBid p0 p1 p2 N) = 0) : Met l yL_bid wsL_bid ({ frames := 8, cells := 4, slots := 24, locals := 127 } : Room) (PL_bid_no G T na mo nm rs D mny nA rA j x2 x3 N f g p0 p1 p2 i yo h0 sz) (QL_bid_no G T na mo nm rs D mny nA rA j x2 x3 N f g p0 p1 p2 i yo h0 sz) 4 24 (va_A (([(yo, .inl (T 4, 1, .inr (.inl h0)))]) ++ (cA T na mo nm rs D mny nA rA) ++ (cN T (nA j) x2 x3 N f g)) sz) := by
  refine va_MetW (cc := cL_bid) (maxL := 6) (ret := (some .int)) (hh := [(0, 12, 15, 13), (0, 12, 19, 15), (0, 12, 23, 25)]) (by decide) rfl ?_
  intro p e s m args below meth c s₁ B hml hv
  obtain ⟨rfl, hsz, hP, hK, hD0, hE⟩ := hv
  have hx := B.exec
  have hb := B.bytes
  have hr := B.returns
  have hts := atoms_spec (ws := wsL_bid) B.pre
  have hown : s.vm.findClass RL = some m.cls := findClass_of_methodNamed B.named
  have hlocks := B.notSynchronized
  have htab : c.exceptionTable.toList = tableOf [(0, 12, 15, 13), (0, 12, 19, 15), (0, 12, 23, 25)] := vx_table (x := yL_bid) B (hts _ List.mem_cons_self)
  subst hsz
  have hD := hD0.self (sz := s.heap.size)
  have hA : ∀ q : Nat, s.heap.size ≤ q → (va_A (([(yo, .inl (T 4, 1, .inr (.inl h0)))]) ++ (cA T na mo nm rs D mny nA rA) ++ (cN T (nA j) x2 x3 N f g)) s.heap.size) q := fun q h => Or.inr h
  have hS : va_S (va_A (([(yo, .inl (T 4, 1, .inr (.inl h0)))]) ++ (cA T na mo nm rs D mny nA rA) ++ (cN T (nA j) x2 x3 N f g)) s.heap.size) s.heap s.heap [] := va_S.rf
  have hl := lv_entry ([.ref na, .int p0, .int p1, .int p2, .ref yo]) (n := 6) (Nat.le_of_ble_eq_true rfl)
  rw [lg_entry_eq]
  generalize (lg_sl ([.ref na, .int p0, .int p1, .int p2, .ref yo]) ++ List.replicate (6 - (lg_sl ([.ref na, .int p0, .int p1, .int p2, .ref yo])).length) Slot.unset).toArray = ls at hl ⊢
  have hl : lv_has ls 6 [(0, .ref na), (1, .int p0), (2, .int p1), (3, .int p2), (4, .ref yo)] := hl
  have hP : va_P G vwCl (([(yo, .inl (T 4, 1, .inr (.inl h0)))]) ++ (cA T na mo nm rs D mny nA rA) ++ (cN T (nA j) x2 x3 N f g)) s.heap := hP
  refine lv_aload hx hb dL_bid_0 (lv_at hl 4 rfl) ?_
  refine lv_iconst (v := 0) hx hb dL_bid_2 (by decide) ?_
  refine lv_aload_n hx hb dL_bid_3 rfl (lv_at hl 0 rfl) ?_
  refine lv_iload_n hx hb dL_bid_4 rfl (lv_at hl 1 rfl) ?_
  refine lv_iload_n hx hb dL_bid_5 rfl (lv_at hl 2 rfl) ?_
  refine lv_iload_n hx hb dL_bid_6 rfl (lv_at hl 3 rfl) ?_
  refine gxi (vx_runV (As := [.int p0, .int p1, .int p2]) (rest := [.int 0, .ref yo]) ⟨hx, hb, hml, hown, hts⟩ (kX2_bid l hl0 G T na mo nm rs D mny nA rA j x2 x3 N f g p0 p1 p2 i _ hi hj) (cwV 3 hts gL_bid_X2_bid rfl rfl rfl (by decide +kernel) ⟨Nat.le_of_ble_eq_true rfl, Nat.le_of_ble_eq_true rfl⟩) ⟨gblind, va_recv hK hP (ci := 2) (q0 := 1) rfl rfl, gpre hE hK hP hD hS hA [1, 2, 3, 4, 5, 6, 7] rfl rfl⟩ rfl rfl hl.1 rfl (lv_room (Nat.le_of_ble_eq_true rfl)) dL_bid_7 ⟨Nat.le_of_ble_eq_true rfl, Nat.le_of_ble_eq_true rfl⟩) hP hD hS hA [1, 2, 3, 4, 5, 6, 7] rfl rfl (fun E9 ce9 q9 H locs he hP hD hS hce hcv hcl => ?_) (fun r9 H locs hw hP hD hS => ?_)
  · skip
    have hP : va_P G vwCl (([(yo, .inl (T 4, 1, .inr (.inl h0)))]) ++ (cA T na mo nm rs D mny nA rA) ++ (cN T (nA j) x2 x3 N f g)) H := hP
    have hD : va_D (va_A (([(yo, .inl (T 4, 1, .inr (.inl h0)))]) ++ (cA T na mo nm rs D mny nA rA) ++ (cN T (nA j) x2 x3 N f g)) s.heap.size) (([(yo, .inl (T 4, 1, .inr (.inl h0)))]) ++ (cA T na mo nm rs D mny nA rA) ++ (cN T (nA j) x2 x3 N f g)) := hD
    rcases he with ⟨hk9, rfl⟩ | ⟨hk9, rfl⟩ | ⟨hk9, rfl⟩
    · skip
      refine vx_catch (own := RL) (name := "java/lang/IndexOutOfBoundsException") hown [] ⟨0, 12, 15, 13⟩ [⟨0, 12, 19, 15⟩, ⟨0, 12, 23, 25⟩] (htab.trans rfl) (fun z hz => nomatch hz) rfl (by decide) (hts (.classLink RL 13 "java/lang/IndexOutOfBoundsException") (by decide +kernel)) (va_Nw.use rfl (hE.1 (.castable "java/lang/IndexOutOfBoundsException" "java/lang/IndexOutOfBoundsException") (by decide +kernel))) hce hcv hcl ?_
      refine lv_astore (lv' := [(5, .ref q9), (0, .ref na), (1, .int p0), (2, .int p1), (3, .int p2), (4, .ref yo)]) hx hb dL_bid_15 hl (by decide) rfl (fun ls hl => ?_)
      refine lv_iconst (v := 1) hx hb dL_bid_17 (by decide) ?_
      exact W.iret (v := 1) hx hb hr (fun t ht9 hW => ⟨⟨1, (), rfl, by rw [hk9]; rfl, gBi ht9 (gfin hP (rfl))⟩, hS.F ht9⟩) hS.2.2 dL_bid_18
    · skip
      refine vx_catch (own := RL) (name := "java/lang/IllegalArgumentException") hown [⟨0, 12, 15, 13⟩] ⟨0, 12, 19, 15⟩ [⟨0, 12, 23, 25⟩] (htab.trans rfl) (fun z hz => by cases List.mem_singleton.mp hz; exact Or.inr ⟨by decide, "java/lang/IndexOutOfBoundsException", hts (.classLink RL 13 "java/lang/IndexOutOfBoundsException") (by decide +kernel), hE.2.1.1⟩) rfl (by decide) (hts (.classLink RL 15 "java/lang/IllegalArgumentException") (by decide +kernel)) (va_Nw.use rfl (hE.1 (.castable "java/lang/IllegalArgumentException" "java/lang/IllegalArgumentException") (by decide +kernel))) hce hcv hcl ?_
      refine lv_astore (lv' := [(5, .ref q9), (0, .ref na), (1, .int p0), (2, .int p1), (3, .int p2), (4, .ref yo)]) hx hb dL_bid_19 hl (by decide) rfl (fun ls hl => ?_)
      refine lv_iconst (v := 2) hx hb dL_bid_21 (by decide) ?_
      exact W.iret (v := 2) hx hb hr (fun t ht9 hW => ⟨⟨2, (), rfl, by rw [hk9]; rfl, gBi ht9 (gfin hP (rfl))⟩, hS.F ht9⟩) hS.2.2 dL_bid_22
    · skip
      refine vx_catch (own := RL) (name := "java/lang/IllegalStateException") hown [⟨0, 12, 15, 13⟩, ⟨0, 12, 19, 15⟩] ⟨0, 12, 23, 25⟩ [] (htab.trans rfl) (fun z hz => by rcases List.mem_cons.mp hz with rfl | hz; exact Or.inr ⟨by decide, "java/lang/IndexOutOfBoundsException", hts (.classLink RL 13 "java/lang/IndexOutOfBoundsException") (by decide +kernel), hE.2.1.2.1⟩; cases List.mem_singleton.mp hz; exact Or.inr ⟨by decide, "java/lang/IllegalArgumentException", hts (.classLink RL 15 "java/lang/IllegalArgumentException") (by decide +kernel), hE.2.1.2.2⟩) rfl (by decide) (hts (.classLink RL 25 "java/lang/IllegalStateException") (by decide +kernel)) (va_Nw.use rfl (hE.1 (.castable "java/lang/IllegalStateException" "java/lang/IllegalStateException") (by decide +kernel))) hce hcv hcl ?_
      refine lv_astore (lv' := [(5, .ref q9), (0, .ref na), (1, .int p0), (2, .int p1), (3, .int p2), (4, .ref yo)]) hx hb dL_bid_23 hl (by decide) rfl (fun ls hl => ?_)
      refine lv_iconst (v := 3) hx hb dL_bid_25 (by decide) ?_
      exact W.iret (v := 3) hx hb hr (fun t ht9 hW => ⟨⟨3, (), rfl, by rw [hk9]; rfl, gBi ht9 (gfin hP (rfl))⟩, hS.F ht9⟩) hS.2.2 dL_bid_26
  · skip
    have hP : va_P G vwCl (([(yo, .inl (T 4, 1, .inr (.inl h0)))]) ++ (cA T na mo nm rs (upd D 5 (D 5 + 1)) mny nA rA) ++ (cN T (nA j) x2 x3 (sBidN N D) (upd f i p2) (upd g i (D 5 + 1)))) H := hP
    have hD : va_D (va_A (([(yo, .inl (T 4, 1, .inr (.inl h0)))]) ++ (cA T na mo nm rs D mny nA rA) ++ (cN T (nA j) x2 x3 N f g)) s.heap.size) (([(yo, .inl (T 4, 1, .inr (.inl h0)))]) ++ (cA T na mo nm rs (upd D 5 (D 5 + 1)) mny nA rA) ++ (cN T (nA j) x2 x3 (sBidN N D) (upd f i p2) (upd g i (D 5 + 1)))) := hD
    exact absurd hw.1 hk
abbrev PL_funds_ok (G : va_G) (T : Nat → ClassId) (na mo nm rs : Nat) (D mny : Nat → Int32) (nA rA : Nat → Nat) (p0 : Int32) (i : Nat) (yo : Nat) (h0 : Nat → Int64) (sz : Nat) : Array Value → State → Prop := gPc G T [.ref na, .int p0, .ref yo] (([(yo, .inl (T 4, 1, .inr (.inl h0)))]) ++ (cA T na mo nm rs D mny nA rA)) sz
abbrev QL_funds_ok (G : va_G) (T : Nat → ClassId) (na mo nm rs : Nat) (D mny : Nat → Int32) (nA rA : Nat → Nat) (p0 : Int32) (i : Nat) (yo : Nat) (h0 : Nat → Int64) (sz : Nat) : Array Value → State → Outcome → State → Prop := va_Qi (fun (r : Int32) (_ : Unit) => r = 0) (gB G (([(yo, .inl (T 4, 1, .inr (.inl (vp_updL h0 0 ((mny i).toInt64)))))]) ++ (cA T na mo nm rs D mny nA rA))) (va_A (([(yo, .inl (T 4, 1, .inr (.inl h0)))]) ++ (cA T na mo nm rs D mny nA rA)) sz)
set_option maxHeartbeats 4000000 in
set_option maxRecDepth 100000 in
theorem kL_funds_ok (l : Launch) (hl0 : l.stackTraces = false) (G : va_G) (T : Nat → ClassId) (na mo nm rs : Nat) (D mny : Nat → Int32) (nA rA : Nat → Nat) (p0 : Int32) (i : Nat) (yo : Nat) (h0 : Nat → Int64) (sz : Nat) (hi : okI p0 6 = true → p0 = nI i ∧ i < 6) (hk : (kOwn p0) = 0) : Met l yL_funds wsL_funds ({ frames := 8, cells := 1, slots := 6, locals := 123 } : Room) (PL_funds_ok G T na mo nm rs D mny nA rA p0 i yo h0 sz) (QL_funds_ok G T na mo nm rs D mny nA rA p0 i yo h0 sz) 1 6 (va_A (([(yo, .inl (T 4, 1, .inr (.inl h0)))]) ++ (cA T na mo nm rs D mny nA rA)) sz) := by
  refine va_MetW (cc := cL_funds) (maxL := 4) (ret := (some .int)) (hh := [(0, 9, 12, 13)]) (by decide) rfl ?_
  intro p e s m args below meth c s₁ B hml hv
  obtain ⟨rfl, hsz, hP, hK, hD0, hE⟩ := hv
  have hx := B.exec
  have hb := B.bytes
  have hr := B.returns
  have hts := atoms_spec (ws := wsL_funds) B.pre
  have hown : s.vm.findClass RL = some m.cls := findClass_of_methodNamed B.named
  have hlocks := B.notSynchronized
  have htab : c.exceptionTable.toList = tableOf [(0, 9, 12, 13)] := vx_table (x := yL_funds) B (hts _ List.mem_cons_self)
  subst hsz
  have hD := hD0.self (sz := s.heap.size)
  have hA : ∀ q : Nat, s.heap.size ≤ q → (va_A (([(yo, .inl (T 4, 1, .inr (.inl h0)))]) ++ (cA T na mo nm rs D mny nA rA)) s.heap.size) q := fun q h => Or.inr h
  have hS : va_S (va_A (([(yo, .inl (T 4, 1, .inr (.inl h0)))]) ++ (cA T na mo nm rs D mny nA rA)) s.heap.size) s.heap s.heap [] := va_S.rf
  have hl := lv_entry ([.ref na, .int p0, .ref yo]) (n := 4) (Nat.le_of_ble_eq_true rfl)
  rw [lg_entry_eq]
  generalize (lg_sl ([.ref na, .int p0, .ref yo]) ++ List.replicate (4 - (lg_sl ([.ref na, .int p0, .ref yo])).length) Slot.unset).toArray = ls at hl ⊢
  have hl : lv_has ls 4 [(0, .ref na), (1, .int p0), (2, .ref yo)] := hl
  have hP : va_P G vwCl (([(yo, .inl (T 4, 1, .inr (.inl h0)))]) ++ (cA T na mo nm rs D mny nA rA)) s.heap := hP
  refine lv_aload_n hx hb dL_funds_0 rfl (lv_at hl 2 rfl) ?_
  refine lv_iconst (v := 0) hx hb dL_funds_1 (by decide) ?_
  refine lv_aload_n hx hb dL_funds_2 rfl (lv_at hl 0 rfl) ?_
  refine lv_iload_n hx hb dL_funds_3 rfl (lv_at hl 1 rfl) ?_
  refine gxi (vx_runV (As := [.int p0]) (rest := [.int 0, .ref yo]) ⟨hx, hb, hml, hown, hts⟩ (kX2_funds l hl0 G T na mo nm rs D mny nA rA p0 i _ hi) (cwV 1 hts gL_funds_X2_funds rfl rfl rfl (by decide +kernel) ⟨Nat.le_of_ble_eq_true rfl, Nat.le_of_ble_eq_true rfl⟩) ⟨gblind, va_recv hK hP (ci := 2) (q0 := 1) rfl rfl, gpre hE hK hP hD hS hA [1, 2, 3, 4] rfl rfl⟩ rfl rfl hl.1 rfl (lv_room (Nat.le_of_ble_eq_true rfl)) dL_funds_4 ⟨Nat.le_of_ble_eq_true rfl, Nat.le_of_ble_eq_true rfl⟩) hP hD hS hA [1, 2, 3, 4] rfl rfl (fun E9 ce9 q9 H locs he hP hD hS hce hcv hcl => ?_) (fun r9 H locs hw hP hD hS => ?_)
  · skip
    have hP : va_P G vwCl (([(yo, .inl (T 4, 1, .inr (.inl h0)))]) ++ (cA T na mo nm rs D mny nA rA)) H := hP
    have hD : va_D (va_A (([(yo, .inl (T 4, 1, .inr (.inl h0)))]) ++ (cA T na mo nm rs D mny nA rA)) s.heap.size) (([(yo, .inl (T 4, 1, .inr (.inl h0)))]) ++ (cA T na mo nm rs D mny nA rA)) := hD
    rcases he with ⟨hk9, rfl⟩ | ⟨hk9, rfl⟩ | ⟨hk9, rfl⟩
    · skip
      exact absurd (hk.symm.trans hk9) (by decide)
    · skip
      exact absurd (hk.symm.trans hk9) (by decide)
    · skip
      exact absurd (hk.symm.trans hk9) (by decide)
  · skip
    have hP : va_P G vwCl (([(yo, .inl (T 4, 1, .inr (.inl h0)))]) ++ (cA T na mo nm rs D mny nA rA)) H := hP
    have hD : va_D (va_A (([(yo, .inl (T 4, 1, .inr (.inl h0)))]) ++ (cA T na mo nm rs D mny nA rA)) s.heap.size) (([(yo, .inl (T 4, 1, .inr (.inl h0)))]) ++ (cA T na mo nm rs D mny nA rA)) := hD
    obtain ⟨hok4, hw⟩ := hw
    subst hw
    refine lv_i2l (v := (mny i).toInt64) hx hb dL_funds_7 rfl ?_
    refine glast (j := 0) hx hb hK hP hD hS 0 4 rfl rfl (show (0 : Int32) = nI 0 from rfl) (by omega) (by decide) dL_funds_8 (fun H locs hP hD hS => ?_)
    have hP : va_P G vwCl (([(yo, .inl (T 4, 1, .inr (.inl (vp_updL h0 0 ((mny i).toInt64)))))]) ++ (cA T na mo nm rs D mny nA rA)) H := hP
    have hD : va_D (va_A (([(yo, .inl (T 4, 1, .inr (.inl h0)))]) ++ (cA T na mo nm rs D mny nA rA)) s.heap.size) (([(yo, .inl (T 4, 1, .inr (.inl (vp_updL h0 0 ((mny i).toInt64)))))]) ++ (cA T na mo nm rs D mny nA rA)) := hD
    refine lv_goto (tgt := 15) hx hb dL_funds_9 (by decide) ?_
    refine lv_iconst (v := 0) hx hb dL_funds_15 (by decide) ?_
    exact W.iret (v := 0) hx hb hr (fun t ht9 hW => ⟨⟨0, (), rfl, rfl, gBi ht9 (gfin hP (rfl))⟩, hS.F ht9⟩) hS.2.2 dL_funds_16
abbrev PL_funds_no (G : va_G) (T : Nat → ClassId) (na mo nm rs : Nat) (D mny : Nat → Int32) (nA rA : Nat → Nat) (p0 : Int32) (i : Nat) (yo : Nat) (h0 : Nat → Int64) (sz : Nat) : Array Value → State → Prop := gPc G T [.ref na, .int p0, .ref yo] (([(yo, .inl (T 4, 1, .inr (.inl h0)))]) ++ (cA T na mo nm rs D mny nA rA)) sz
abbrev QL_funds_no (G : va_G) (T : Nat → ClassId) (na mo nm rs : Nat) (D mny : Nat → Int32) (nA rA : Nat → Nat) (p0 : Int32) (i : Nat) (yo : Nat) (h0 : Nat → Int64) (sz : Nat) : Array Value → State → Outcome → State → Prop := va_Qi (fun (r : Int32) (_ : Unit) => r = w3 (kOwn p0)) (gB G (([(yo, .inl (T 4, 1, .inr (.inl h0)))]) ++ (cA T na mo nm rs D mny nA rA))) (va_A (([(yo, .inl (T 4, 1, .inr (.inl h0)))]) ++ (cA T na mo nm rs D mny nA rA)) sz)
set_option maxHeartbeats 4000000 in
set_option maxRecDepth 100000 in
theorem kL_funds_no (l : Launch) (hl0 : l.stackTraces = false) (G : va_G) (T : Nat → ClassId) (na mo nm rs : Nat) (D mny : Nat → Int32) (nA rA : Nat → Nat) (p0 : Int32) (i : Nat) (yo : Nat) (h0 : Nat → Int64) (sz : Nat) (hi : okI p0 6 = true → p0 = nI i ∧ i < 6) (hk : ¬ (kOwn p0) = 0) : Met l yL_funds wsL_funds ({ frames := 8, cells := 1, slots := 6, locals := 123 } : Room) (PL_funds_no G T na mo nm rs D mny nA rA p0 i yo h0 sz) (QL_funds_no G T na mo nm rs D mny nA rA p0 i yo h0 sz) 1 6 (va_A (([(yo, .inl (T 4, 1, .inr (.inl h0)))]) ++ (cA T na mo nm rs D mny nA rA)) sz) := by
  refine va_MetW (cc := cL_funds) (maxL := 4) (ret := (some .int)) (hh := [(0, 9, 12, 13)]) (by decide) rfl ?_
  intro p e s m args below meth c s₁ B hml hv
  obtain ⟨rfl, hsz, hP, hK, hD0, hE⟩ := hv
  have hx := B.exec
  have hb := B.bytes
  have hr := B.returns
  have hts := atoms_spec (ws := wsL_funds) B.pre
  have hown : s.vm.findClass RL = some m.cls := findClass_of_methodNamed B.named
  have hlocks := B.notSynchronized
  have htab : c.exceptionTable.toList = tableOf [(0, 9, 12, 13)] := vx_table (x := yL_funds) B (hts _ List.mem_cons_self)
  subst hsz
  have hD := hD0.self (sz := s.heap.size)
  have hA : ∀ q : Nat, s.heap.size ≤ q → (va_A (([(yo, .inl (T 4, 1, .inr (.inl h0)))]) ++ (cA T na mo nm rs D mny nA rA)) s.heap.size) q := fun q h => Or.inr h
  have hS : va_S (va_A (([(yo, .inl (T 4, 1, .inr (.inl h0)))]) ++ (cA T na mo nm rs D mny nA rA)) s.heap.size) s.heap s.heap [] := va_S.rf
  have hl := lv_entry ([.ref na, .int p0, .ref yo]) (n := 4) (Nat.le_of_ble_eq_true rfl)
  rw [lg_entry_eq]
  generalize (lg_sl ([.ref na, .int p0, .ref yo]) ++ List.replicate (4 - (lg_sl ([.ref na, .int p0, .ref yo])).length) Slot.unset).toArray = ls at hl ⊢
  have hl : lv_has ls 4 [(0, .ref na), (1, .int p0), (2, .ref yo)] := hl
  have hP : va_P G vwCl (([(yo, .inl (T 4, 1, .inr (.inl h0)))]) ++ (cA T na mo nm rs D mny nA rA)) s.heap := hP
  refine lv_aload_n hx hb dL_funds_0 rfl (lv_at hl 2 rfl) ?_
  refine lv_iconst (v := 0) hx hb dL_funds_1 (by decide) ?_
  refine lv_aload_n hx hb dL_funds_2 rfl (lv_at hl 0 rfl) ?_
  refine lv_iload_n hx hb dL_funds_3 rfl (lv_at hl 1 rfl) ?_
  refine gxi (vx_runV (As := [.int p0]) (rest := [.int 0, .ref yo]) ⟨hx, hb, hml, hown, hts⟩ (kX2_funds l hl0 G T na mo nm rs D mny nA rA p0 i _ hi) (cwV 1 hts gL_funds_X2_funds rfl rfl rfl (by decide +kernel) ⟨Nat.le_of_ble_eq_true rfl, Nat.le_of_ble_eq_true rfl⟩) ⟨gblind, va_recv hK hP (ci := 2) (q0 := 1) rfl rfl, gpre hE hK hP hD hS hA [1, 2, 3, 4] rfl rfl⟩ rfl rfl hl.1 rfl (lv_room (Nat.le_of_ble_eq_true rfl)) dL_funds_4 ⟨Nat.le_of_ble_eq_true rfl, Nat.le_of_ble_eq_true rfl⟩) hP hD hS hA [1, 2, 3, 4] rfl rfl (fun E9 ce9 q9 H locs he hP hD hS hce hcv hcl => ?_) (fun r9 H locs hw hP hD hS => ?_)
  · skip
    have hP : va_P G vwCl (([(yo, .inl (T 4, 1, .inr (.inl h0)))]) ++ (cA T na mo nm rs D mny nA rA)) H := hP
    have hD : va_D (va_A (([(yo, .inl (T 4, 1, .inr (.inl h0)))]) ++ (cA T na mo nm rs D mny nA rA)) s.heap.size) (([(yo, .inl (T 4, 1, .inr (.inl h0)))]) ++ (cA T na mo nm rs D mny nA rA)) := hD
    rcases he with ⟨hk9, rfl⟩ | ⟨hk9, rfl⟩ | ⟨hk9, rfl⟩
    · skip
      refine vx_catch (own := RL) (name := "java/lang/IndexOutOfBoundsException") hown [] ⟨0, 9, 12, 13⟩ [] (htab.trans rfl) (fun z hz => nomatch hz) rfl (by decide) (hts (.classLink RL 13 "java/lang/IndexOutOfBoundsException") (by decide +kernel)) (va_Nw.use rfl (hE.1 (.castable "java/lang/IndexOutOfBoundsException" "java/lang/IndexOutOfBoundsException") (by decide +kernel))) hce hcv hcl ?_
      refine lv_astore_n (lv' := [(3, .ref q9), (0, .ref na), (1, .int p0), (2, .ref yo)]) hx hb dL_funds_12 rfl hl (by decide) rfl (fun ls hl => ?_)
      refine lv_iconst (v := 1) hx hb dL_funds_13 (by decide) ?_
      exact W.iret (v := 1) hx hb hr (fun t ht9 hW => ⟨⟨1, (), rfl, by rw [hk9]; rfl, gBi ht9 (gfin hP (rfl))⟩, hS.F ht9⟩) hS.2.2 dL_funds_14
    · skip
      exact absurd hk9 (by simp only [kOwn]; repeat (first | split | decide))
    · skip
      exact absurd hk9 (by simp only [kOwn]; repeat (first | split | decide))
  · skip
    have hP : va_P G vwCl (([(yo, .inl (T 4, 1, .inr (.inl h0)))]) ++ (cA T na mo nm rs D mny nA rA)) H := hP
    have hD : va_D (va_A (([(yo, .inl (T 4, 1, .inr (.inl h0)))]) ++ (cA T na mo nm rs D mny nA rA)) s.heap.size) (([(yo, .inl (T 4, 1, .inr (.inl h0)))]) ++ (cA T na mo nm rs D mny nA rA)) := hD
    exact absurd hw.1 hk
abbrev PL_bids_ok (G : va_G) (T : Nat → ClassId) (na mo nm rs : Nat) (D mny : Nat → Int32) (nA rA : Nat → Nat) (j x2 x3 : Nat) (N f g : Nat → Int32) (p0 : Int32) (yo : Nat) (h0 : Nat → Int64) (sz : Nat) : Array Value → State → Prop := gPc G T [.ref na, .int p0, .ref yo] (([(yo, .inl (T 4, 1, .inr (.inl h0)))]) ++ (cA T na mo nm rs D mny nA rA) ++ (cN T (nA j) x2 x3 N f g)) sz
abbrev QL_bids_ok (G : va_G) (T : Nat → ClassId) (na mo nm rs : Nat) (D mny : Nat → Int32) (nA rA : Nat → Nat) (j x2 x3 : Nat) (N f g : Nat → Int32) (p0 : Int32) (yo : Nat) (h0 : Nat → Int64) (sz : Nat) : Array Value → State → Outcome → State → Prop := va_Qi (fun (r : Int32) (_ : Unit) => r = 0) (gB G (([(yo, .inl (T 4, 1, .inr (.inl (vp_updL h0 0 ((sCnt f 6).toInt64)))))]) ++ (cA T na mo nm rs D mny nA rA) ++ (cN T (nA j) x2 x3 N f g))) (va_A (([(yo, .inl (T 4, 1, .inr (.inl h0)))]) ++ (cA T na mo nm rs D mny nA rA) ++ (cN T (nA j) x2 x3 N f g)) sz)
set_option maxHeartbeats 4000000 in
set_option maxRecDepth 100000 in
theorem kL_bids_ok (l : Launch) (hl0 : l.stackTraces = false) (G : va_G) (T : Nat → ClassId) (na mo nm rs : Nat) (D mny : Nat → Int32) (nA rA : Nat → Nat) (j x2 x3 : Nat) (N f g : Nat → Int32) (p0 : Int32) (yo : Nat) (h0 : Nat → Int64) (sz : Nat) (hj : okI p0 16 = true → p0 = nI j ∧ j < 16) (hk : (kNam p0) = 0) : Met l yL_bids wsL_bids ({ frames := 8, cells := 1, slots := 6, locals := 123 } : Room) (PL_bids_ok G T na mo nm rs D mny nA rA j x2 x3 N f g p0 yo h0 sz) (QL_bids_ok G T na mo nm rs D mny nA rA j x2 x3 N f g p0 yo h0 sz) 1 6 (va_A (([(yo, .inl (T 4, 1, .inr (.inl h0)))]) ++ (cA T na mo nm rs D mny nA rA) ++ (cN T (nA j) x2 x3 N f g)) sz) := by
  refine va_MetW (cc := cL_bids) (maxL := 4) (ret := (some .int)) (hh := [(0, 9, 12, 13)]) (by decide) rfl ?_
  intro p e s m args below meth c s₁ B hml hv
  obtain ⟨rfl, hsz, hP, hK, hD0, hE⟩ := hv
  have hx := B.exec
  have hb := B.bytes
  have hr := B.returns
  have hts := atoms_spec (ws := wsL_bids) B.pre
  have hown : s.vm.findClass RL = some m.cls := findClass_of_methodNamed B.named
  have hlocks := B.notSynchronized
  have htab : c.exceptionTable.toList = tableOf [(0, 9, 12, 13)] := vx_table (x := yL_bids) B (hts _ List.mem_cons_self)
  subst hsz
  have hD := hD0.self (sz := s.heap.size)
  have hA : ∀ q : Nat, s.heap.size ≤ q → (va_A (([(yo, .inl (T 4, 1, .inr (.inl h0)))]) ++ (cA T na mo nm rs D mny nA rA) ++ (cN T (nA j) x2 x3 N f g)) s.heap.size) q := fun q h => Or.inr h
  have hS : va_S (va_A (([(yo, .inl (T 4, 1, .inr (.inl h0)))]) ++ (cA T na mo nm rs D mny nA rA) ++ (cN T (nA j) x2 x3 N f g)) s.heap.size) s.heap s.heap [] := va_S.rf
  have hl := lv_entry ([.ref na, .int p0, .ref yo]) (n := 4) (Nat.le_of_ble_eq_true rfl)
  rw [lg_entry_eq]
  generalize (lg_sl ([.ref na, .int p0, .ref yo]) ++ List.replicate (4 - (lg_sl ([.ref na, .int p0, .ref yo])).length) Slot.unset).toArray = ls at hl ⊢
  have hl : lv_has ls 4 [(0, .ref na), (1, .int p0), (2, .ref yo)] := hl
  have hP : va_P G vwCl (([(yo, .inl (T 4, 1, .inr (.inl h0)))]) ++ (cA T na mo nm rs D mny nA rA) ++ (cN T (nA j) x2 x3 N f g)) s.heap := hP
  refine lv_aload_n hx hb dL_bids_0 rfl (lv_at hl 2 rfl) ?_
  refine lv_iconst (v := 0) hx hb dL_bids_1 (by decide) ?_
  refine lv_aload_n hx hb dL_bids_2 rfl (lv_at hl 0 rfl) ?_
  refine lv_iload_n hx hb dL_bids_3 rfl (lv_at hl 1 rfl) ?_
  refine gxi (vx_runV (As := [.int p0]) (rest := [.int 0, .ref yo]) ⟨hx, hb, hml, hown, hts⟩ (kX2_bids l hl0 G T na mo nm rs D mny nA rA j x2 x3 N f g p0 _ hj) (cwV 1 hts gL_bids_X2_bids rfl rfl rfl (by decide +kernel) ⟨Nat.le_of_ble_eq_true rfl, Nat.le_of_ble_eq_true rfl⟩) ⟨gblind, va_recv hK hP (ci := 2) (q0 := 1) rfl rfl, gpre hE hK hP hD hS hA [1, 2, 3, 4, 5, 6, 7] rfl rfl⟩ rfl rfl hl.1 rfl (lv_room (Nat.le_of_ble_eq_true rfl)) dL_bids_4 ⟨Nat.le_of_ble_eq_true rfl, Nat.le_of_ble_eq_true rfl⟩) hP hD hS hA [1, 2, 3, 4, 5, 6, 7] rfl rfl (fun E9 ce9 q9 H locs he hP hD hS hce hcv hcl => ?_) (fun r9 H locs hw hP hD hS => ?_)
  · skip
    have hP : va_P G vwCl (([(yo, .inl (T 4, 1, .inr (.inl h0)))]) ++ (cA T na mo nm rs D mny nA rA) ++ (cN T (nA j) x2 x3 N f g)) H := hP
    have hD : va_D (va_A (([(yo, .inl (T 4, 1, .inr (.inl h0)))]) ++ (cA T na mo nm rs D mny nA rA) ++ (cN T (nA j) x2 x3 N f g)) s.heap.size) (([(yo, .inl (T 4, 1, .inr (.inl h0)))]) ++ (cA T na mo nm rs D mny nA rA) ++ (cN T (nA j) x2 x3 N f g)) := hD
    rcases he with ⟨hk9, rfl⟩ | ⟨hk9, rfl⟩ | ⟨hk9, rfl⟩
    · skip
      exact absurd (hk.symm.trans hk9) (by decide)
    · skip
      exact absurd (hk.symm.trans hk9) (by decide)
    · skip
      exact absurd (hk.symm.trans hk9) (by decide)
  · skip
    have hP : va_P G vwCl (([(yo, .inl (T 4, 1, .inr (.inl h0)))]) ++ (cA T na mo nm rs D mny nA rA) ++ (cN T (nA j) x2 x3 N f g)) H := hP
    have hD : va_D (va_A (([(yo, .inl (T 4, 1, .inr (.inl h0)))]) ++ (cA T na mo nm rs D mny nA rA) ++ (cN T (nA j) x2 x3 N f g)) s.heap.size) (([(yo, .inl (T 4, 1, .inr (.inl h0)))]) ++ (cA T na mo nm rs D mny nA rA) ++ (cN T (nA j) x2 x3 N f g)) := hD
    obtain ⟨hok4, hw⟩ := hw
    subst hw
    refine lv_i2l (v := (sCnt f 6).toInt64) hx hb dL_bids_7 rfl ?_
    refine glast (j := 0) hx hb hK hP hD hS 0 4 rfl rfl (show (0 : Int32) = nI 0 from rfl) (by omega) (by decide) dL_bids_8 (fun H locs hP hD hS => ?_)
    have hP : va_P G vwCl (([(yo, .inl (T 4, 1, .inr (.inl (vp_updL h0 0 ((sCnt f 6).toInt64)))))]) ++ (cA T na mo nm rs D mny nA rA) ++ (cN T (nA j) x2 x3 N f g)) H := hP
    have hD : va_D (va_A (([(yo, .inl (T 4, 1, .inr (.inl h0)))]) ++ (cA T na mo nm rs D mny nA rA) ++ (cN T (nA j) x2 x3 N f g)) s.heap.size) (([(yo, .inl (T 4, 1, .inr (.inl (vp_updL h0 0 ((sCnt f 6).toInt64)))))]) ++ (cA T na mo nm rs D mny nA rA) ++ (cN T (nA j) x2 x3 N f g)) := hD
    refine lv_goto (tgt := 15) hx hb dL_bids_9 (by decide) ?_
    refine lv_iconst (v := 0) hx hb dL_bids_15 (by decide) ?_
    exact W.iret (v := 0) hx hb hr (fun t ht9 hW => ⟨⟨0, (), rfl, rfl, gBi ht9 (gfin hP (rfl))⟩, hS.F ht9⟩) hS.2.2 dL_bids_16
abbrev PL_bids_no (G : va_G) (T : Nat → ClassId) (na mo nm rs : Nat) (D mny : Nat → Int32) (nA rA : Nat → Nat) (j x2 x3 : Nat) (N f g : Nat → Int32) (p0 : Int32) (yo : Nat) (h0 : Nat → Int64) (sz : Nat) : Array Value → State → Prop := gPc G T [.ref na, .int p0, .ref yo] (([(yo, .inl (T 4, 1, .inr (.inl h0)))]) ++ (cA T na mo nm rs D mny nA rA) ++ (cN T (nA j) x2 x3 N f g)) sz
abbrev QL_bids_no (G : va_G) (T : Nat → ClassId) (na mo nm rs : Nat) (D mny : Nat → Int32) (nA rA : Nat → Nat) (j x2 x3 : Nat) (N f g : Nat → Int32) (p0 : Int32) (yo : Nat) (h0 : Nat → Int64) (sz : Nat) : Array Value → State → Outcome → State → Prop := va_Qi (fun (r : Int32) (_ : Unit) => r = w3 (kNam p0)) (gB G (([(yo, .inl (T 4, 1, .inr (.inl h0)))]) ++ (cA T na mo nm rs D mny nA rA) ++ (cN T (nA j) x2 x3 N f g))) (va_A (([(yo, .inl (T 4, 1, .inr (.inl h0)))]) ++ (cA T na mo nm rs D mny nA rA) ++ (cN T (nA j) x2 x3 N f g)) sz)
set_option maxHeartbeats 4000000 in
set_option maxRecDepth 100000 in
theorem kL_bids_no (l : Launch) (hl0 : l.stackTraces = false) (G : va_G) (T : Nat → ClassId) (na mo nm rs : Nat) (D mny : Nat → Int32) (nA rA : Nat → Nat) (j x2 x3 : Nat) (N f g : Nat → Int32) (p0 : Int32) (yo : Nat) (h0 : Nat → Int64) (sz : Nat) (hj : okI p0 16 = true → p0 = nI j ∧ j < 16) (hk : ¬ (kNam p0) = 0) : Met l yL_bids wsL_bids ({ frames := 8, cells := 1, slots := 6, locals := 123 } : Room) (PL_bids_no G T na mo nm rs D mny nA rA j x2 x3 N f g p0 yo h0 sz) (QL_bids_no G T na mo nm rs D mny nA rA j x2 x3 N f g p0 yo h0 sz) 1 6 (va_A (([(yo, .inl (T 4, 1, .inr (.inl h0)))]) ++ (cA T na mo nm rs D mny nA rA) ++ (cN T (nA j) x2 x3 N f g)) sz) := by
  refine va_MetW (cc := cL_bids) (maxL := 4) (ret := (some .int)) (hh := [(0, 9, 12, 13)]) (by decide) rfl ?_
  intro p e s m args below meth c s₁ B hml hv
  obtain ⟨rfl, hsz, hP, hK, hD0, hE⟩ := hv
  have hx := B.exec
  have hb := B.bytes
  have hr := B.returns
  have hts := atoms_spec (ws := wsL_bids) B.pre
  have hown : s.vm.findClass RL = some m.cls := findClass_of_methodNamed B.named
  have hlocks := B.notSynchronized
  have htab : c.exceptionTable.toList = tableOf [(0, 9, 12, 13)] := vx_table (x := yL_bids) B (hts _ List.mem_cons_self)
  subst hsz
  have hD := hD0.self (sz := s.heap.size)
  have hA : ∀ q : Nat, s.heap.size ≤ q → (va_A (([(yo, .inl (T 4, 1, .inr (.inl h0)))]) ++ (cA T na mo nm rs D mny nA rA) ++ (cN T (nA j) x2 x3 N f g)) s.heap.size) q := fun q h => Or.inr h
  have hS : va_S (va_A (([(yo, .inl (T 4, 1, .inr (.inl h0)))]) ++ (cA T na mo nm rs D mny nA rA) ++ (cN T (nA j) x2 x3 N f g)) s.heap.size) s.heap s.heap [] := va_S.rf
  have hl := lv_entry ([.ref na, .int p0, .ref yo]) (n := 4) (Nat.le_of_ble_eq_true rfl)
  rw [lg_entry_eq]
  generalize (lg_sl ([.ref na, .int p0, .ref yo]) ++ List.replicate (4 - (lg_sl ([.ref na, .int p0, .ref yo])).length) Slot.unset).toArray = ls at hl ⊢
  have hl : lv_has ls 4 [(0, .ref na), (1, .int p0), (2, .ref yo)] := hl
  have hP : va_P G vwCl (([(yo, .inl (T 4, 1, .inr (.inl h0)))]) ++ (cA T na mo nm rs D mny nA rA) ++ (cN T (nA j) x2 x3 N f g)) s.heap := hP
  refine lv_aload_n hx hb dL_bids_0 rfl (lv_at hl 2 rfl) ?_
  refine lv_iconst (v := 0) hx hb dL_bids_1 (by decide) ?_
  refine lv_aload_n hx hb dL_bids_2 rfl (lv_at hl 0 rfl) ?_
  refine lv_iload_n hx hb dL_bids_3 rfl (lv_at hl 1 rfl) ?_
  refine gxi (vx_runV (As := [.int p0]) (rest := [.int 0, .ref yo]) ⟨hx, hb, hml, hown, hts⟩ (kX2_bids l hl0 G T na mo nm rs D mny nA rA j x2 x3 N f g p0 _ hj) (cwV 1 hts gL_bids_X2_bids rfl rfl rfl (by decide +kernel) ⟨Nat.le_of_ble_eq_true rfl, Nat.le_of_ble_eq_true rfl⟩) ⟨gblind, va_recv hK hP (ci := 2) (q0 := 1) rfl rfl, gpre hE hK hP hD hS hA [1, 2, 3, 4, 5, 6, 7] rfl rfl⟩ rfl rfl hl.1 rfl (lv_room (Nat.le_of_ble_eq_true rfl)) dL_bids_4 ⟨Nat.le_of_ble_eq_true rfl, Nat.le_of_ble_eq_true rfl⟩) hP hD hS hA [1, 2, 3, 4, 5, 6, 7] rfl rfl (fun E9 ce9 q9 H locs he hP hD hS hce hcv hcl => ?_) (fun r9 H locs hw hP hD hS => ?_)
  · skip
    have hP : va_P G vwCl (([(yo, .inl (T 4, 1, .inr (.inl h0)))]) ++ (cA T na mo nm rs D mny nA rA) ++ (cN T (nA j) x2 x3 N f g)) H := hP
    have hD : va_D (va_A (([(yo, .inl (T 4, 1, .inr (.inl h0)))]) ++ (cA T na mo nm rs D mny nA rA) ++ (cN T (nA j) x2 x3 N f g)) s.heap.size) (([(yo, .inl (T 4, 1, .inr (.inl h0)))]) ++ (cA T na mo nm rs D mny nA rA) ++ (cN T (nA j) x2 x3 N f g)) := hD
    rcases he with ⟨hk9, rfl⟩ | ⟨hk9, rfl⟩ | ⟨hk9, rfl⟩
    · skip
      refine vx_catch (own := RL) (name := "java/lang/IndexOutOfBoundsException") hown [] ⟨0, 9, 12, 13⟩ [] (htab.trans rfl) (fun z hz => nomatch hz) rfl (by decide) (hts (.classLink RL 13 "java/lang/IndexOutOfBoundsException") (by decide +kernel)) (va_Nw.use rfl (hE.1 (.castable "java/lang/IndexOutOfBoundsException" "java/lang/IndexOutOfBoundsException") (by decide +kernel))) hce hcv hcl ?_
      refine lv_astore_n (lv' := [(3, .ref q9), (0, .ref na), (1, .int p0), (2, .ref yo)]) hx hb dL_bids_12 rfl hl (by decide) rfl (fun ls hl => ?_)
      refine lv_iconst (v := 1) hx hb dL_bids_13 (by decide) ?_
      exact W.iret (v := 1) hx hb hr (fun t ht9 hW => ⟨⟨1, (), rfl, by rw [hk9]; rfl, gBi ht9 (gfin hP (rfl))⟩, hS.F ht9⟩) hS.2.2 dL_bids_14
    · skip
      exact absurd hk9 (by simp only [kNam]; repeat (first | split | decide))
    · skip
      exact absurd hk9 (by simp only [kNam]; repeat (first | split | decide))
  · skip
    have hP : va_P G vwCl (([(yo, .inl (T 4, 1, .inr (.inl h0)))]) ++ (cA T na mo nm rs D mny nA rA) ++ (cN T (nA j) x2 x3 N f g)) H := hP
    have hD : va_D (va_A (([(yo, .inl (T 4, 1, .inr (.inl h0)))]) ++ (cA T na mo nm rs D mny nA rA) ++ (cN T (nA j) x2 x3 N f g)) s.heap.size) (([(yo, .inl (T 4, 1, .inr (.inl h0)))]) ++ (cA T na mo nm rs D mny nA rA) ++ (cN T (nA j) x2 x3 N f g)) := hD
    exact absurd hw.1 hk
abbrev PL_renew_ok (G : va_G) (T : Nat → ClassId) (na mo nm rs : Nat) (D mny : Nat → Int32) (nA rA : Nat → Nat) (j x2 x3 : Nat) (N f g : Nat → Int32) (p0 p1 : Int32) (yo : Nat) (h0 : Nat → Int64) (sz : Nat) : Array Value → State → Prop := gPc G T [.ref na, .int p0, .int p1, .ref yo] (([(yo, .inl (T 4, 1, .inr (.inl h0)))]) ++ (cA T na mo nm rs D mny nA rA) ++ (cN T (nA j) x2 x3 N f g)) sz
abbrev QL_renew_ok (G : va_G) (T : Nat → ClassId) (na mo nm rs : Nat) (D mny : Nat → Int32) (nA rA : Nat → Nat) (j x2 x3 : Nat) (N f g : Nat → Int32) (p0 p1 : Int32) (yo : Nat) (h0 : Nat → Int64) (sz : Nat) : Array Value → State → Outcome → State → Prop := va_Qi (fun (r : Int32) (_ : Unit) => r = 0) (gB G (([(yo, .inl (T 4, 1, .inr (.inl (vp_updL h0 0 ((N 3 + p1 * 100).toInt64)))))]) ++ (cA T na mo nm rs (sPayD D mny (N 1) (p1 * 20)) (sPayF mny (N 1) (p1 * 20)) nA rA) ++ (cN T (nA j) x2 x3 (upd (upd N 3 (N 3 + p1 * 100)) 0 2) f g))) (va_A (([(yo, .inl (T 4, 1, .inr (.inl h0)))]) ++ (cA T na mo nm rs D mny nA rA) ++ (cN T (nA j) x2 x3 N f g)) sz)
set_option maxHeartbeats 4000000 in
set_option maxRecDepth 100000 in
theorem kL_renew_ok (l : Launch) (hl0 : l.stackTraces = false) (G : va_G) (T : Nat → ClassId) (na mo nm rs : Nat) (D mny : Nat → Int32) (nA rA : Nat → Nat) (j x2 x3 : Nat) (N f g : Nat → Int32) (p0 p1 : Int32) (yo : Nat) (h0 : Nat → Int64) (sz : Nat) (hj : okI p0 16 = true → p0 = nI j ∧ j < 16) (hk : (kRenew D mny N p0 p1) = 0) : Met l yL_renew wsL_renew ({ frames := 8, cells := 3, slots := 18, locals := 128 } : Room) (PL_renew_ok G T na mo nm rs D mny nA rA j x2 x3 N f g p0 p1 yo h0 sz) (QL_renew_ok G T na mo nm rs D mny nA rA j x2 x3 N f g p0 p1 yo h0 sz) 3 18 (va_A (([(yo, .inl (T 4, 1, .inr (.inl h0)))]) ++ (cA T na mo nm rs D mny nA rA) ++ (cN T (nA j) x2 x3 N f g)) sz) := by
  refine va_MetW (cc := cL_renew) (maxL := 5) (ret := (some .int)) (hh := [(0, 10, 13, 13), (0, 10, 17, 15), (0, 10, 21, 25)]) (by decide) rfl ?_
  intro p e s m args below meth c s₁ B hml hv
  obtain ⟨rfl, hsz, hP, hK, hD0, hE⟩ := hv
  have hx := B.exec
  have hb := B.bytes
  have hr := B.returns
  have hts := atoms_spec (ws := wsL_renew) B.pre
  have hown : s.vm.findClass RL = some m.cls := findClass_of_methodNamed B.named
  have hlocks := B.notSynchronized
  have htab : c.exceptionTable.toList = tableOf [(0, 10, 13, 13), (0, 10, 17, 15), (0, 10, 21, 25)] := vx_table (x := yL_renew) B (hts _ List.mem_cons_self)
  subst hsz
  have hD := hD0.self (sz := s.heap.size)
  have hA : ∀ q : Nat, s.heap.size ≤ q → (va_A (([(yo, .inl (T 4, 1, .inr (.inl h0)))]) ++ (cA T na mo nm rs D mny nA rA) ++ (cN T (nA j) x2 x3 N f g)) s.heap.size) q := fun q h => Or.inr h
  have hS : va_S (va_A (([(yo, .inl (T 4, 1, .inr (.inl h0)))]) ++ (cA T na mo nm rs D mny nA rA) ++ (cN T (nA j) x2 x3 N f g)) s.heap.size) s.heap s.heap [] := va_S.rf
  have hl := lv_entry ([.ref na, .int p0, .int p1, .ref yo]) (n := 5) (Nat.le_of_ble_eq_true rfl)
  rw [lg_entry_eq]
  generalize (lg_sl ([.ref na, .int p0, .int p1, .ref yo]) ++ List.replicate (5 - (lg_sl ([.ref na, .int p0, .int p1, .ref yo])).length) Slot.unset).toArray = ls at hl ⊢
  have hl : lv_has ls 5 [(0, .ref na), (1, .int p0), (2, .int p1), (3, .ref yo)] := hl
  have hP : va_P G vwCl (([(yo, .inl (T 4, 1, .inr (.inl h0)))]) ++ (cA T na mo nm rs D mny nA rA) ++ (cN T (nA j) x2 x3 N f g)) s.heap := hP
  refine lv_aload_n hx hb dL_renew_0 rfl (lv_at hl 3 rfl) ?_
  refine lv_iconst (v := 0) hx hb dL_renew_1 (by decide) ?_
  refine lv_aload_n hx hb dL_renew_2 rfl (lv_at hl 0 rfl) ?_
  refine lv_iload_n hx hb dL_renew_3 rfl (lv_at hl 1 rfl) ?_
  refine lv_iload_n hx hb dL_renew_4 rfl (lv_at hl 2 rfl) ?_
  refine gxi (vx_runV (As := [.int p0, .int p1]) (rest := [.int 0, .ref yo]) ⟨hx, hb, hml, hown, hts⟩ (kX2_renew l hl0 G T na mo nm rs D mny nA rA j x2 x3 N f g p0 p1 _ hj) (cwV 2 hts gL_renew_X2_renew rfl rfl rfl (by decide +kernel) ⟨Nat.le_of_ble_eq_true rfl, Nat.le_of_ble_eq_true rfl⟩) ⟨gblind, va_recv hK hP (ci := 2) (q0 := 1) rfl rfl, gpre hE hK hP hD hS hA [1, 2, 3, 4, 5, 6, 7] rfl rfl⟩ rfl rfl hl.1 rfl (lv_room (Nat.le_of_ble_eq_true rfl)) dL_renew_5 ⟨Nat.le_of_ble_eq_true rfl, Nat.le_of_ble_eq_true rfl⟩) hP hD hS hA [1, 2, 3, 4, 5, 6, 7] rfl rfl (fun E9 ce9 q9 H locs he hP hD hS hce hcv hcl => ?_) (fun r9 H locs hw hP hD hS => ?_)
  · skip
    have hP : va_P G vwCl (([(yo, .inl (T 4, 1, .inr (.inl h0)))]) ++ (cA T na mo nm rs D mny nA rA) ++ (cN T (nA j) x2 x3 N f g)) H := hP
    have hD : va_D (va_A (([(yo, .inl (T 4, 1, .inr (.inl h0)))]) ++ (cA T na mo nm rs D mny nA rA) ++ (cN T (nA j) x2 x3 N f g)) s.heap.size) (([(yo, .inl (T 4, 1, .inr (.inl h0)))]) ++ (cA T na mo nm rs D mny nA rA) ++ (cN T (nA j) x2 x3 N f g)) := hD
    rcases he with ⟨hk9, rfl⟩ | ⟨hk9, rfl⟩ | ⟨hk9, rfl⟩
    · skip
      exact absurd (hk.symm.trans hk9) (by decide)
    · skip
      exact absurd (hk.symm.trans hk9) (by decide)
    · skip
      exact absurd (hk.symm.trans hk9) (by decide)
  · skip
    have hP : va_P G vwCl (([(yo, .inl (T 4, 1, .inr (.inl h0)))]) ++ (cA T na mo nm rs (sPayD D mny (N 1) (p1 * 20)) (sPayF mny (N 1) (p1 * 20)) nA rA) ++ (cN T (nA j) x2 x3 (upd (upd N 3 (N 3 + p1 * 100)) 0 2) f g)) H := hP
    have hD : va_D (va_A (([(yo, .inl (T 4, 1, .inr (.inl h0)))]) ++ (cA T na mo nm rs D mny nA rA) ++ (cN T (nA j) x2 x3 N f g)) s.heap.size) (([(yo, .inl (T 4, 1, .inr (.inl h0)))]) ++ (cA T na mo nm rs (sPayD D mny (N 1) (p1 * 20)) (sPayF mny (N 1) (p1 * 20)) nA rA) ++ (cN T (nA j) x2 x3 (upd (upd N 3 (N 3 + p1 * 100)) 0 2) f g)) := hD
    obtain ⟨hok5, hw⟩ := hw
    subst hw
    refine lv_i2l (v := (N 3 + p1 * 100).toInt64) hx hb dL_renew_8 rfl ?_
    refine glast (j := 0) hx hb hK hP hD hS 0 4 rfl rfl (show (0 : Int32) = nI 0 from rfl) (by omega) (by decide) dL_renew_9 (fun H locs hP hD hS => ?_)
    have hP : va_P G vwCl (([(yo, .inl (T 4, 1, .inr (.inl (vp_updL h0 0 ((N 3 + p1 * 100).toInt64)))))]) ++ (cA T na mo nm rs (sPayD D mny (N 1) (p1 * 20)) (sPayF mny (N 1) (p1 * 20)) nA rA) ++ (cN T (nA j) x2 x3 (upd (upd N 3 (N 3 + p1 * 100)) 0 2) f g)) H := hP
    have hD : va_D (va_A (([(yo, .inl (T 4, 1, .inr (.inl h0)))]) ++ (cA T na mo nm rs D mny nA rA) ++ (cN T (nA j) x2 x3 N f g)) s.heap.size) (([(yo, .inl (T 4, 1, .inr (.inl (vp_updL h0 0 ((N 3 + p1 * 100).toInt64)))))]) ++ (cA T na mo nm rs (sPayD D mny (N 1) (p1 * 20)) (sPayF mny (N 1) (p1 * 20)) nA rA) ++ (cN T (nA j) x2 x3 (upd (upd N 3 (N 3 + p1 * 100)) 0 2) f g)) := hD
    refine lv_goto (tgt := 25) hx hb dL_renew_10 (by decide) ?_
    refine lv_iconst (v := 0) hx hb dL_renew_25 (by decide) ?_
    exact W.iret (v := 0) hx hb hr (fun t ht9 hW => ⟨⟨0, (), rfl, rfl, gBi ht9 (gfin hP (rfl))⟩, hS.F ht9⟩) hS.2.2 dL_renew_26
abbrev PL_renew_no (G : va_G) (T : Nat → ClassId) (na mo nm rs : Nat) (D mny : Nat → Int32) (nA rA : Nat → Nat) (j x2 x3 : Nat) (N f g : Nat → Int32) (p0 p1 : Int32) (yo : Nat) (h0 : Nat → Int64) (sz : Nat) : Array Value → State → Prop := gPc G T [.ref na, .int p0, .int p1, .ref yo] (([(yo, .inl (T 4, 1, .inr (.inl h0)))]) ++ (cA T na mo nm rs D mny nA rA) ++ (cN T (nA j) x2 x3 N f g)) sz
abbrev QL_renew_no (G : va_G) (T : Nat → ClassId) (na mo nm rs : Nat) (D mny : Nat → Int32) (nA rA : Nat → Nat) (j x2 x3 : Nat) (N f g : Nat → Int32) (p0 p1 : Int32) (yo : Nat) (h0 : Nat → Int64) (sz : Nat) : Array Value → State → Outcome → State → Prop := va_Qi (fun (r : Int32) (_ : Unit) => r = w3 (kRenew D mny N p0 p1)) (gB G (([(yo, .inl (T 4, 1, .inr (.inl h0)))]) ++ (cA T na mo nm rs D mny nA rA) ++ (cN T (nA j) x2 x3 N f g))) (va_A (([(yo, .inl (T 4, 1, .inr (.inl h0)))]) ++ (cA T na mo nm rs D mny nA rA) ++ (cN T (nA j) x2 x3 N f g)) sz)
set_option maxHeartbeats 4000000 in
set_option maxRecDepth 100000 in
theorem kL_renew_no (l : Launch) (hl0 : l.stackTraces = false) (G : va_G) (T : Nat → ClassId) (na mo nm rs : Nat) (D mny : Nat → Int32) (nA rA : Nat → Nat) (j x2 x3 : Nat) (N f g : Nat → Int32) (p0 p1 : Int32) (yo : Nat) (h0 : Nat → Int64) (sz : Nat) (hj : okI p0 16 = true → p0 = nI j ∧ j < 16) (hk : ¬ (kRenew D mny N p0 p1) = 0) : Met l yL_renew wsL_renew ({ frames := 8, cells := 3, slots := 18, locals := 128 } : Room) (PL_renew_no G T na mo nm rs D mny nA rA j x2 x3 N f g p0 p1 yo h0 sz) (QL_renew_no G T na mo nm rs D mny nA rA j x2 x3 N f g p0 p1 yo h0 sz) 3 18 (va_A (([(yo, .inl (T 4, 1, .inr (.inl h0)))]) ++ (cA T na mo nm rs D mny nA rA) ++ (cN T (nA j) x2 x3 N f g)) sz) := by
  refine va_MetW (cc := cL_renew) (maxL := 5) (ret := (some .int)) (hh := [(0, 10, 13, 13), (0, 10, 17, 15), (0, 10, 21, 25)]) (by decide) rfl ?_
  intro p e s m args below meth c s₁ B hml hv
  obtain ⟨rfl, hsz, hP, hK, hD0, hE⟩ := hv
  have hx := B.exec
  have hb := B.bytes
  have hr := B.returns
  have hts := atoms_spec (ws := wsL_renew) B.pre
  have hown : s.vm.findClass RL = some m.cls := findClass_of_methodNamed B.named
  have hlocks := B.notSynchronized
  have htab : c.exceptionTable.toList = tableOf [(0, 10, 13, 13), (0, 10, 17, 15), (0, 10, 21, 25)] := vx_table (x := yL_renew) B (hts _ List.mem_cons_self)
  subst hsz
  have hD := hD0.self (sz := s.heap.size)
  have hA : ∀ q : Nat, s.heap.size ≤ q → (va_A (([(yo, .inl (T 4, 1, .inr (.inl h0)))]) ++ (cA T na mo nm rs D mny nA rA) ++ (cN T (nA j) x2 x3 N f g)) s.heap.size) q := fun q h => Or.inr h
  have hS : va_S (va_A (([(yo, .inl (T 4, 1, .inr (.inl h0)))]) ++ (cA T na mo nm rs D mny nA rA) ++ (cN T (nA j) x2 x3 N f g)) s.heap.size) s.heap s.heap [] := va_S.rf
  have hl := lv_entry ([.ref na, .int p0, .int p1, .ref yo]) (n := 5) (Nat.le_of_ble_eq_true rfl)
  rw [lg_entry_eq]
  generalize (lg_sl ([.ref na, .int p0, .int p1, .ref yo]) ++ List.replicate (5 - (lg_sl ([.ref na, .int p0, .int p1, .ref yo])).length) Slot.unset).toArray = ls at hl ⊢
  have hl : lv_has ls 5 [(0, .ref na), (1, .int p0), (2, .int p1), (3, .ref yo)] := hl
  have hP : va_P G vwCl (([(yo, .inl (T 4, 1, .inr (.inl h0)))]) ++ (cA T na mo nm rs D mny nA rA) ++ (cN T (nA j) x2 x3 N f g)) s.heap := hP
  refine lv_aload_n hx hb dL_renew_0 rfl (lv_at hl 3 rfl) ?_
  refine lv_iconst (v := 0) hx hb dL_renew_1 (by decide) ?_
  refine lv_aload_n hx hb dL_renew_2 rfl (lv_at hl 0 rfl) ?_
  refine lv_iload_n hx hb dL_renew_3 rfl (lv_at hl 1 rfl) ?_
  refine lv_iload_n hx hb dL_renew_4 rfl (lv_at hl 2 rfl) ?_
  refine gxi (vx_runV (As := [.int p0, .int p1]) (rest := [.int 0, .ref yo]) ⟨hx, hb, hml, hown, hts⟩ (kX2_renew l hl0 G T na mo nm rs D mny nA rA j x2 x3 N f g p0 p1 _ hj) (cwV 2 hts gL_renew_X2_renew rfl rfl rfl (by decide +kernel) ⟨Nat.le_of_ble_eq_true rfl, Nat.le_of_ble_eq_true rfl⟩) ⟨gblind, va_recv hK hP (ci := 2) (q0 := 1) rfl rfl, gpre hE hK hP hD hS hA [1, 2, 3, 4, 5, 6, 7] rfl rfl⟩ rfl rfl hl.1 rfl (lv_room (Nat.le_of_ble_eq_true rfl)) dL_renew_5 ⟨Nat.le_of_ble_eq_true rfl, Nat.le_of_ble_eq_true rfl⟩) hP hD hS hA [1, 2, 3, 4, 5, 6, 7] rfl rfl (fun E9 ce9 q9 H locs he hP hD hS hce hcv hcl => ?_) (fun r9 H locs hw hP hD hS => ?_)
  · skip
    have hP : va_P G vwCl (([(yo, .inl (T 4, 1, .inr (.inl h0)))]) ++ (cA T na mo nm rs D mny nA rA) ++ (cN T (nA j) x2 x3 N f g)) H := hP
    have hD : va_D (va_A (([(yo, .inl (T 4, 1, .inr (.inl h0)))]) ++ (cA T na mo nm rs D mny nA rA) ++ (cN T (nA j) x2 x3 N f g)) s.heap.size) (([(yo, .inl (T 4, 1, .inr (.inl h0)))]) ++ (cA T na mo nm rs D mny nA rA) ++ (cN T (nA j) x2 x3 N f g)) := hD
    rcases he with ⟨hk9, rfl⟩ | ⟨hk9, rfl⟩ | ⟨hk9, rfl⟩
    · skip
      refine vx_catch (own := RL) (name := "java/lang/IndexOutOfBoundsException") hown [] ⟨0, 10, 13, 13⟩ [⟨0, 10, 17, 15⟩, ⟨0, 10, 21, 25⟩] (htab.trans rfl) (fun z hz => nomatch hz) rfl (by decide) (hts (.classLink RL 13 "java/lang/IndexOutOfBoundsException") (by decide +kernel)) (va_Nw.use rfl (hE.1 (.castable "java/lang/IndexOutOfBoundsException" "java/lang/IndexOutOfBoundsException") (by decide +kernel))) hce hcv hcl ?_
      refine lv_astore (lv' := [(4, .ref q9), (0, .ref na), (1, .int p0), (2, .int p1), (3, .ref yo)]) hx hb dL_renew_13 hl (by decide) rfl (fun ls hl => ?_)
      refine lv_iconst (v := 1) hx hb dL_renew_15 (by decide) ?_
      exact W.iret (v := 1) hx hb hr (fun t ht9 hW => ⟨⟨1, (), rfl, by rw [hk9]; rfl, gBi ht9 (gfin hP (rfl))⟩, hS.F ht9⟩) hS.2.2 dL_renew_16
    · skip
      refine vx_catch (own := RL) (name := "java/lang/IllegalArgumentException") hown [⟨0, 10, 13, 13⟩] ⟨0, 10, 17, 15⟩ [⟨0, 10, 21, 25⟩] (htab.trans rfl) (fun z hz => by cases List.mem_singleton.mp hz; exact Or.inr ⟨by decide, "java/lang/IndexOutOfBoundsException", hts (.classLink RL 13 "java/lang/IndexOutOfBoundsException") (by decide +kernel), hE.2.1.1⟩) rfl (by decide) (hts (.classLink RL 15 "java/lang/IllegalArgumentException") (by decide +kernel)) (va_Nw.use rfl (hE.1 (.castable "java/lang/IllegalArgumentException" "java/lang/IllegalArgumentException") (by decide +kernel))) hce hcv hcl ?_
      refine lv_astore (lv' := [(4, .ref q9), (0, .ref na), (1, .int p0), (2, .int p1), (3, .ref yo)]) hx hb dL_renew_17 hl (by decide) rfl (fun ls hl => ?_)
      refine lv_iconst (v := 2) hx hb dL_renew_19 (by decide) ?_
      exact W.iret (v := 2) hx hb hr (fun t ht9 hW => ⟨⟨2, (), rfl, by rw [hk9]; rfl, gBi ht9 (gfin hP (rfl))⟩, hS.F ht9⟩) hS.2.2 dL_renew_20
    · skip
      refine vx_catch (own := RL) (name := "java/lang/IllegalStateException") hown [⟨0, 10, 13, 13⟩, ⟨0, 10, 17, 15⟩] ⟨0, 10, 21, 25⟩ [] (htab.trans rfl) (fun z hz => by rcases List.mem_cons.mp hz with rfl | hz; exact Or.inr ⟨by decide, "java/lang/IndexOutOfBoundsException", hts (.classLink RL 13 "java/lang/IndexOutOfBoundsException") (by decide +kernel), hE.2.1.2.1⟩; cases List.mem_singleton.mp hz; exact Or.inr ⟨by decide, "java/lang/IllegalArgumentException", hts (.classLink RL 15 "java/lang/IllegalArgumentException") (by decide +kernel), hE.2.1.2.2⟩) rfl (by decide) (hts (.classLink RL 25 "java/lang/IllegalStateException") (by decide +kernel)) (va_Nw.use rfl (hE.1 (.castable "java/lang/IllegalStateException" "java/lang/IllegalStateException") (by decide +kernel))) hce hcv hcl ?_
      refine lv_astore (lv' := [(4, .ref q9), (0, .ref na), (1, .int p0), (2, .int p1), (3, .ref yo)]) hx hb dL_renew_21 hl (by decide) rfl (fun ls hl => ?_)
      refine lv_iconst (v := 3) hx hb dL_renew_23 (by decide) ?_
      exact W.iret (v := 3) hx hb hr (fun t ht9 hW => ⟨⟨3, (), rfl, by rw [hk9]; rfl, gBi ht9 (gfin hP (rfl))⟩, hS.F ht9⟩) hS.2.2 dL_renew_24
  · skip
    have hP : va_P G vwCl (([(yo, .inl (T 4, 1, .inr (.inl h0)))]) ++ (cA T na mo nm rs (sPayD D mny (N 1) (p1 * 20)) (sPayF mny (N 1) (p1 * 20)) nA rA) ++ (cN T (nA j) x2 x3 (upd (upd N 3 (N 3 + p1 * 100)) 0 2) f g)) H := hP
    have hD : va_D (va_A (([(yo, .inl (T 4, 1, .inr (.inl h0)))]) ++ (cA T na mo nm rs D mny nA rA) ++ (cN T (nA j) x2 x3 N f g)) s.heap.size) (([(yo, .inl (T 4, 1, .inr (.inl h0)))]) ++ (cA T na mo nm rs (sPayD D mny (N 1) (p1 * 20)) (sPayF mny (N 1) (p1 * 20)) nA rA) ++ (cN T (nA j) x2 x3 (upd (upd N 3 (N 3 + p1 * 100)) 0 2) f g)) := hD
    exact absurd hw.1 hk
abbrev PL_redeem_ok (G : va_G) (T : Nat → ClassId) (na mo nm rs : Nat) (D mny : Nat → Int32) (nA rA : Nat → Nat) (j x2 x3 : Nat) (N f g : Nat → Int32) (p0 : Int32) (yo : Nat) (h0 : Nat → Int64) (sz : Nat) : Array Value → State → Prop := gPc G T [.ref na, .int p0, .ref yo] (([(yo, .inl (T 4, 1, .inr (.inl h0)))]) ++ (cA T na mo nm rs D mny nA rA) ++ (cN T (nA j) x2 x3 N f g)) sz
abbrev QL_redeem_ok (G : va_G) (T : Nat → ClassId) (na mo nm rs : Nat) (D mny : Nat → Int32) (nA rA : Nat → Nat) (j x2 x3 : Nat) (N f g : Nat → Int32) (p0 : Int32) (yo : Nat) (h0 : Nat → Int64) (sz : Nat) : Array Value → State → Outcome → State → Prop := va_Qi (fun (r : Int32) (_ : Unit) => r = 0) (gB G (([(yo, .inl (T 4, 1, .inr (.inl (vp_updL h0 0 ((sPayD D mny (N 1) 50 3 + 100).toInt64)))))]) ++ (cA T na mo nm rs (sPayD D mny (N 1) 50) (sPayF mny (N 1) 50) nA rA) ++ (cN T (nA j) x2 x3 (upd (upd (upd (upd (upd N 0 2) 1 (N 1)) 3 ((sPayD D mny (N 1) 50) 3 + 100)) 4 0) 5 10) (fun _ => 0) g))) (va_A (([(yo, .inl (T 4, 1, .inr (.inl h0)))]) ++ (cA T na mo nm rs D mny nA rA) ++ (cN T (nA j) x2 x3 N f g)) sz)
set_option maxHeartbeats 4000000 in
set_option maxRecDepth 100000 in
theorem kL_redeem_ok (l : Launch) (hl0 : l.stackTraces = false) (G : va_G) (T : Nat → ClassId) (na mo nm rs : Nat) (D mny : Nat → Int32) (nA rA : Nat → Nat) (j x2 x3 : Nat) (N f g : Nat → Int32) (p0 : Int32) (yo : Nat) (h0 : Nat → Int64) (sz : Nat) (hj : okI p0 16 = true → p0 = nI j ∧ j < 16) (hk : (kRedeem mny N p0) = 0) : Met l yL_redeem wsL_redeem ({ frames := 8, cells := 2, slots := 12, locals := 124 } : Room) (PL_redeem_ok G T na mo nm rs D mny nA rA j x2 x3 N f g p0 yo h0 sz) (QL_redeem_ok G T na mo nm rs D mny nA rA j x2 x3 N f g p0 yo h0 sz) 2 12 (va_A (([(yo, .inl (T 4, 1, .inr (.inl h0)))]) ++ (cA T na mo nm rs D mny nA rA) ++ (cN T (nA j) x2 x3 N f g)) sz) := by
  refine va_MetW (cc := cL_redeem) (maxL := 4) (ret := (some .int)) (hh := [(0, 9, 12, 13), (0, 9, 15, 25)]) (by decide) rfl ?_
  intro p e s m args below meth c s₁ B hml hv
  obtain ⟨rfl, hsz, hP, hK, hD0, hE⟩ := hv
  have hx := B.exec
  have hb := B.bytes
  have hr := B.returns
  have hts := atoms_spec (ws := wsL_redeem) B.pre
  have hown : s.vm.findClass RL = some m.cls := findClass_of_methodNamed B.named
  have hlocks := B.notSynchronized
  have htab : c.exceptionTable.toList = tableOf [(0, 9, 12, 13), (0, 9, 15, 25)] := vx_table (x := yL_redeem) B (hts _ List.mem_cons_self)
  subst hsz
  have hD := hD0.self (sz := s.heap.size)
  have hA : ∀ q : Nat, s.heap.size ≤ q → (va_A (([(yo, .inl (T 4, 1, .inr (.inl h0)))]) ++ (cA T na mo nm rs D mny nA rA) ++ (cN T (nA j) x2 x3 N f g)) s.heap.size) q := fun q h => Or.inr h
  have hS : va_S (va_A (([(yo, .inl (T 4, 1, .inr (.inl h0)))]) ++ (cA T na mo nm rs D mny nA rA) ++ (cN T (nA j) x2 x3 N f g)) s.heap.size) s.heap s.heap [] := va_S.rf
  have hl := lv_entry ([.ref na, .int p0, .ref yo]) (n := 4) (Nat.le_of_ble_eq_true rfl)
  rw [lg_entry_eq]
  generalize (lg_sl ([.ref na, .int p0, .ref yo]) ++ List.replicate (4 - (lg_sl ([.ref na, .int p0, .ref yo])).length) Slot.unset).toArray = ls at hl ⊢
  have hl : lv_has ls 4 [(0, .ref na), (1, .int p0), (2, .ref yo)] := hl
  have hP : va_P G vwCl (([(yo, .inl (T 4, 1, .inr (.inl h0)))]) ++ (cA T na mo nm rs D mny nA rA) ++ (cN T (nA j) x2 x3 N f g)) s.heap := hP
  refine lv_aload_n hx hb dL_redeem_0 rfl (lv_at hl 2 rfl) ?_
  refine lv_iconst (v := 0) hx hb dL_redeem_1 (by decide) ?_
  refine lv_aload_n hx hb dL_redeem_2 rfl (lv_at hl 0 rfl) ?_
  refine lv_iload_n hx hb dL_redeem_3 rfl (lv_at hl 1 rfl) ?_
  refine gxi (vx_runV (As := [.int p0]) (rest := [.int 0, .ref yo]) ⟨hx, hb, hml, hown, hts⟩ (kX2_redeem l hl0 G T na mo nm rs D mny nA rA j x2 x3 N f g p0 _ hj) (cwV 1 hts gL_redeem_X2_redeem rfl rfl rfl (by decide +kernel) ⟨Nat.le_of_ble_eq_true rfl, Nat.le_of_ble_eq_true rfl⟩) ⟨gblind, va_recv hK hP (ci := 2) (q0 := 1) rfl rfl, gpre hE hK hP hD hS hA [1, 2, 3, 4, 5, 6, 7] rfl rfl⟩ rfl rfl hl.1 rfl (lv_room (Nat.le_of_ble_eq_true rfl)) dL_redeem_4 ⟨Nat.le_of_ble_eq_true rfl, Nat.le_of_ble_eq_true rfl⟩) hP hD hS hA [1, 2, 3, 4, 5, 6, 7] rfl rfl (fun E9 ce9 q9 H locs he hP hD hS hce hcv hcl => ?_) (fun r9 H locs hw hP hD hS => ?_)
  · skip
    have hP : va_P G vwCl (([(yo, .inl (T 4, 1, .inr (.inl h0)))]) ++ (cA T na mo nm rs D mny nA rA) ++ (cN T (nA j) x2 x3 N f g)) H := hP
    have hD : va_D (va_A (([(yo, .inl (T 4, 1, .inr (.inl h0)))]) ++ (cA T na mo nm rs D mny nA rA) ++ (cN T (nA j) x2 x3 N f g)) s.heap.size) (([(yo, .inl (T 4, 1, .inr (.inl h0)))]) ++ (cA T na mo nm rs D mny nA rA) ++ (cN T (nA j) x2 x3 N f g)) := hD
    rcases he with ⟨hk9, rfl⟩ | ⟨hk9, rfl⟩ | ⟨hk9, rfl⟩
    · skip
      exact absurd (hk.symm.trans hk9) (by decide)
    · skip
      exact absurd (hk.symm.trans hk9) (by decide)
    · skip
      exact absurd (hk.symm.trans hk9) (by decide)
  · skip
    have hP : va_P G vwCl (([(yo, .inl (T 4, 1, .inr (.inl h0)))]) ++ (cA T na mo nm rs (sPayD D mny (N 1) 50) (sPayF mny (N 1) 50) nA rA) ++ (cN T (nA j) x2 x3 (upd (upd (upd (upd (upd N 0 2) 1 (N 1)) 3 ((sPayD D mny (N 1) 50) 3 + 100)) 4 0) 5 10) (fun _ => 0) g)) H := hP
    have hD : va_D (va_A (([(yo, .inl (T 4, 1, .inr (.inl h0)))]) ++ (cA T na mo nm rs D mny nA rA) ++ (cN T (nA j) x2 x3 N f g)) s.heap.size) (([(yo, .inl (T 4, 1, .inr (.inl h0)))]) ++ (cA T na mo nm rs (sPayD D mny (N 1) 50) (sPayF mny (N 1) 50) nA rA) ++ (cN T (nA j) x2 x3 (upd (upd (upd (upd (upd N 0 2) 1 (N 1)) 3 ((sPayD D mny (N 1) 50) 3 + 100)) 4 0) 5 10) (fun _ => 0) g)) := hD
    obtain ⟨hok4, hw⟩ := hw
    subst hw
    refine lv_i2l (v := (sPayD D mny (N 1) 50 3 + 100).toInt64) hx hb dL_redeem_7 rfl ?_
    refine glast (j := 0) hx hb hK hP hD hS 0 4 rfl rfl (show (0 : Int32) = nI 0 from rfl) (by omega) (by decide) dL_redeem_8 (fun H locs hP hD hS => ?_)
    have hP : va_P G vwCl (([(yo, .inl (T 4, 1, .inr (.inl (vp_updL h0 0 ((sPayD D mny (N 1) 50 3 + 100).toInt64)))))]) ++ (cA T na mo nm rs (sPayD D mny (N 1) 50) (sPayF mny (N 1) 50) nA rA) ++ (cN T (nA j) x2 x3 (upd (upd (upd (upd (upd N 0 2) 1 (N 1)) 3 ((sPayD D mny (N 1) 50) 3 + 100)) 4 0) 5 10) (fun _ => 0) g)) H := hP
    have hD : va_D (va_A (([(yo, .inl (T 4, 1, .inr (.inl h0)))]) ++ (cA T na mo nm rs D mny nA rA) ++ (cN T (nA j) x2 x3 N f g)) s.heap.size) (([(yo, .inl (T 4, 1, .inr (.inl (vp_updL h0 0 ((sPayD D mny (N 1) 50 3 + 100).toInt64)))))]) ++ (cA T na mo nm rs (sPayD D mny (N 1) 50) (sPayF mny (N 1) 50) nA rA) ++ (cN T (nA j) x2 x3 (upd (upd (upd (upd (upd N 0 2) 1 (N 1)) 3 ((sPayD D mny (N 1) 50) 3 + 100)) 4 0) 5 10) (fun _ => 0) g)) := hD
    refine lv_goto (tgt := 18) hx hb dL_redeem_9 (by decide) ?_
    refine lv_iconst (v := 0) hx hb dL_redeem_18 (by decide) ?_
    exact W.iret (v := 0) hx hb hr (fun t ht9 hW => ⟨⟨0, (), rfl, rfl, gBi ht9 (gfin hP (rfl))⟩, hS.F ht9⟩) hS.2.2 dL_redeem_19
abbrev PL_redeem_no (G : va_G) (T : Nat → ClassId) (na mo nm rs : Nat) (D mny : Nat → Int32) (nA rA : Nat → Nat) (j x2 x3 : Nat) (N f g : Nat → Int32) (p0 : Int32) (yo : Nat) (h0 : Nat → Int64) (sz : Nat) : Array Value → State → Prop := gPc G T [.ref na, .int p0, .ref yo] (([(yo, .inl (T 4, 1, .inr (.inl h0)))]) ++ (cA T na mo nm rs D mny nA rA) ++ (cN T (nA j) x2 x3 N f g)) sz
abbrev QL_redeem_no (G : va_G) (T : Nat → ClassId) (na mo nm rs : Nat) (D mny : Nat → Int32) (nA rA : Nat → Nat) (j x2 x3 : Nat) (N f g : Nat → Int32) (p0 : Int32) (yo : Nat) (h0 : Nat → Int64) (sz : Nat) : Array Value → State → Outcome → State → Prop := va_Qi (fun (r : Int32) (_ : Unit) => r = w13 (kRedeem mny N p0)) (gB G (([(yo, .inl (T 4, 1, .inr (.inl h0)))]) ++ (cA T na mo nm rs D mny nA rA) ++ (cN T (nA j) x2 x3 N f g))) (va_A (([(yo, .inl (T 4, 1, .inr (.inl h0)))]) ++ (cA T na mo nm rs D mny nA rA) ++ (cN T (nA j) x2 x3 N f g)) sz)
set_option maxHeartbeats 4000000 in
set_option maxRecDepth 100000 in
theorem kL_redeem_no (l : Launch) (hl0 : l.stackTraces = false) (G : va_G) (T : Nat → ClassId) (na mo nm rs : Nat) (D mny : Nat → Int32) (nA rA : Nat → Nat) (j x2 x3 : Nat) (N f g : Nat → Int32) (p0 : Int32) (yo : Nat) (h0 : Nat → Int64) (sz : Nat) (hj : okI p0 16 = true → p0 = nI j ∧ j < 16) (hk : ¬ (kRedeem mny N p0) = 0) : Met l yL_redeem wsL_redeem ({ frames := 8, cells := 2, slots := 12, locals := 124 } : Room) (PL_redeem_no G T na mo nm rs D mny nA rA j x2 x3 N f g p0 yo h0 sz) (QL_redeem_no G T na mo nm rs D mny nA rA j x2 x3 N f g p0 yo h0 sz) 2 12 (va_A (([(yo, .inl (T 4, 1, .inr (.inl h0)))]) ++ (cA T na mo nm rs D mny nA rA) ++ (cN T (nA j) x2 x3 N f g)) sz) := by
  refine va_MetW (cc := cL_redeem) (maxL := 4) (ret := (some .int)) (hh := [(0, 9, 12, 13), (0, 9, 15, 25)]) (by decide) rfl ?_
  intro p e s m args below meth c s₁ B hml hv
  obtain ⟨rfl, hsz, hP, hK, hD0, hE⟩ := hv
  have hx := B.exec
  have hb := B.bytes
  have hr := B.returns
  have hts := atoms_spec (ws := wsL_redeem) B.pre
  have hown : s.vm.findClass RL = some m.cls := findClass_of_methodNamed B.named
  have hlocks := B.notSynchronized
  have htab : c.exceptionTable.toList = tableOf [(0, 9, 12, 13), (0, 9, 15, 25)] := vx_table (x := yL_redeem) B (hts _ List.mem_cons_self)
  subst hsz
  have hD := hD0.self (sz := s.heap.size)
  have hA : ∀ q : Nat, s.heap.size ≤ q → (va_A (([(yo, .inl (T 4, 1, .inr (.inl h0)))]) ++ (cA T na mo nm rs D mny nA rA) ++ (cN T (nA j) x2 x3 N f g)) s.heap.size) q := fun q h => Or.inr h
  have hS : va_S (va_A (([(yo, .inl (T 4, 1, .inr (.inl h0)))]) ++ (cA T na mo nm rs D mny nA rA) ++ (cN T (nA j) x2 x3 N f g)) s.heap.size) s.heap s.heap [] := va_S.rf
  have hl := lv_entry ([.ref na, .int p0, .ref yo]) (n := 4) (Nat.le_of_ble_eq_true rfl)
  rw [lg_entry_eq]
  generalize (lg_sl ([.ref na, .int p0, .ref yo]) ++ List.replicate (4 - (lg_sl ([.ref na, .int p0, .ref yo])).length) Slot.unset).toArray = ls at hl ⊢
  have hl : lv_has ls 4 [(0, .ref na), (1, .int p0), (2, .ref yo)] := hl
  have hP : va_P G vwCl (([(yo, .inl (T 4, 1, .inr (.inl h0)))]) ++ (cA T na mo nm rs D mny nA rA) ++ (cN T (nA j) x2 x3 N f g)) s.heap := hP
  refine lv_aload_n hx hb dL_redeem_0 rfl (lv_at hl 2 rfl) ?_
  refine lv_iconst (v := 0) hx hb dL_redeem_1 (by decide) ?_
  refine lv_aload_n hx hb dL_redeem_2 rfl (lv_at hl 0 rfl) ?_
  refine lv_iload_n hx hb dL_redeem_3 rfl (lv_at hl 1 rfl) ?_
  refine gxi (vx_runV (As := [.int p0]) (rest := [.int 0, .ref yo]) ⟨hx, hb, hml, hown, hts⟩ (kX2_redeem l hl0 G T na mo nm rs D mny nA rA j x2 x3 N f g p0 _ hj) (cwV 1 hts gL_redeem_X2_redeem rfl rfl rfl (by decide +kernel) ⟨Nat.le_of_ble_eq_true rfl, Nat.le_of_ble_eq_true rfl⟩) ⟨gblind, va_recv hK hP (ci := 2) (q0 := 1) rfl rfl, gpre hE hK hP hD hS hA [1, 2, 3, 4, 5, 6, 7] rfl rfl⟩ rfl rfl hl.1 rfl (lv_room (Nat.le_of_ble_eq_true rfl)) dL_redeem_4 ⟨Nat.le_of_ble_eq_true rfl, Nat.le_of_ble_eq_true rfl⟩) hP hD hS hA [1, 2, 3, 4, 5, 6, 7] rfl rfl (fun E9 ce9 q9 H locs he hP hD hS hce hcv hcl => ?_) (fun r9 H locs hw hP hD hS => ?_)
  · skip
    have hP : va_P G vwCl (([(yo, .inl (T 4, 1, .inr (.inl h0)))]) ++ (cA T na mo nm rs D mny nA rA) ++ (cN T (nA j) x2 x3 N f g)) H := hP
    have hD : va_D (va_A (([(yo, .inl (T 4, 1, .inr (.inl h0)))]) ++ (cA T na mo nm rs D mny nA rA) ++ (cN T (nA j) x2 x3 N f g)) s.heap.size) (([(yo, .inl (T 4, 1, .inr (.inl h0)))]) ++ (cA T na mo nm rs D mny nA rA) ++ (cN T (nA j) x2 x3 N f g)) := hD
    rcases he with ⟨hk9, rfl⟩ | ⟨hk9, rfl⟩ | ⟨hk9, rfl⟩
    · skip
      refine vx_catch (own := RL) (name := "java/lang/IndexOutOfBoundsException") hown [] ⟨0, 9, 12, 13⟩ [⟨0, 9, 15, 25⟩] (htab.trans rfl) (fun z hz => nomatch hz) rfl (by decide) (hts (.classLink RL 13 "java/lang/IndexOutOfBoundsException") (by decide +kernel)) (va_Nw.use rfl (hE.1 (.castable "java/lang/IndexOutOfBoundsException" "java/lang/IndexOutOfBoundsException") (by decide +kernel))) hce hcv hcl ?_
      refine lv_astore_n (lv' := [(3, .ref q9), (0, .ref na), (1, .int p0), (2, .ref yo)]) hx hb dL_redeem_12 rfl hl (by decide) rfl (fun ls hl => ?_)
      refine lv_iconst (v := 1) hx hb dL_redeem_13 (by decide) ?_
      exact W.iret (v := 1) hx hb hr (fun t ht9 hW => ⟨⟨1, (), rfl, by rw [hk9]; rfl, gBi ht9 (gfin hP (rfl))⟩, hS.F ht9⟩) hS.2.2 dL_redeem_14
    · skip
      exact absurd hk9 (by simp only [kRedeem]; repeat (first | split | decide))
    · skip
      refine vx_catch (own := RL) (name := "java/lang/IllegalStateException") hown [⟨0, 9, 12, 13⟩] ⟨0, 9, 15, 25⟩ [] (htab.trans rfl) (fun z hz => by cases List.mem_singleton.mp hz; exact Or.inr ⟨by decide, "java/lang/IndexOutOfBoundsException", hts (.classLink RL 13 "java/lang/IndexOutOfBoundsException") (by decide +kernel), hE.2.1.2.1⟩) rfl (by decide) (hts (.classLink RL 25 "java/lang/IllegalStateException") (by decide +kernel)) (va_Nw.use rfl (hE.1 (.castable "java/lang/IllegalStateException" "java/lang/IllegalStateException") (by decide +kernel))) hce hcv hcl ?_
      refine lv_astore_n (lv' := [(3, .ref q9), (0, .ref na), (1, .int p0), (2, .ref yo)]) hx hb dL_redeem_15 rfl hl (by decide) rfl (fun ls hl => ?_)
      refine lv_iconst (v := 2) hx hb dL_redeem_16 (by decide) ?_
      exact W.iret (v := 2) hx hb hr (fun t ht9 hW => ⟨⟨2, (), rfl, by rw [hk9]; rfl, gBi ht9 (gfin hP (rfl))⟩, hS.F ht9⟩) hS.2.2 dL_redeem_17
  · skip
    have hP : va_P G vwCl (([(yo, .inl (T 4, 1, .inr (.inl h0)))]) ++ (cA T na mo nm rs (sPayD D mny (N 1) 50) (sPayF mny (N 1) 50) nA rA) ++ (cN T (nA j) x2 x3 (upd (upd (upd (upd (upd N 0 2) 1 (N 1)) 3 ((sPayD D mny (N 1) 50) 3 + 100)) 4 0) 5 10) (fun _ => 0) g)) H := hP
    have hD : va_D (va_A (([(yo, .inl (T 4, 1, .inr (.inl h0)))]) ++ (cA T na mo nm rs D mny nA rA) ++ (cN T (nA j) x2 x3 N f g)) s.heap.size) (([(yo, .inl (T 4, 1, .inr (.inl h0)))]) ++ (cA T na mo nm rs (sPayD D mny (N 1) 50) (sPayF mny (N 1) 50) nA rA) ++ (cN T (nA j) x2 x3 (upd (upd (upd (upd (upd N 0 2) 1 (N 1)) 3 ((sPayD D mny (N 1) 50) 3 + 100)) 4 0) 5 10) (fun _ => 0) g)) := hD
    exact absurd hw.1 hk
abbrev PL_setRecord_ok (G : va_G) (T : Nat → ClassId) (na mo nm rs : Nat) (D mny : Nat → Int32) (nA rA : Nat → Nat) (j x2 x3 : Nat) (N f g : Nat → Int32) (p0 p1 p2 : Int32) (yo : Nat) (h0 : Nat → Int64) (sz : Nat) : Array Value → State → Prop := gPc G T [.ref na, .int p0, .int p1, .int p2, .ref yo] (([(yo, .inl (T 4, 1, .inr (.inl h0)))]) ++ (cA T na mo nm rs D mny nA rA) ++ (cN T (nA j) x2 x3 N f g)) sz
abbrev QL_setRecord_ok (G : va_G) (T : Nat → ClassId) (na mo nm rs : Nat) (D mny : Nat → Int32) (nA rA : Nat → Nat) (j x2 x3 : Nat) (N f g : Nat → Int32) (p0 p1 p2 : Int32) (yo : Nat) (h0 : Nat → Int64) (sz : Nat) : Array Value → State → Outcome → State → Prop := va_Qi (fun (r : Int32) (_ : Unit) => r = 0) (gB G (([(yo, .inl (T 4, 1, .inr (.inl (vp_updL h0 0 ((N 4).toInt64)))))]) ++ (cA T na mo nm rs D mny nA rA) ++ (cN T (nA j) x2 x3 (upd (upd N 4 p1) 5 p2) f g))) (va_A (([(yo, .inl (T 4, 1, .inr (.inl h0)))]) ++ (cA T na mo nm rs D mny nA rA) ++ (cN T (nA j) x2 x3 N f g)) sz)
set_option maxHeartbeats 4000000 in
set_option maxRecDepth 100000 in
theorem kL_setRecord_ok (l : Launch) (hl0 : l.stackTraces = false) (G : va_G) (T : Nat → ClassId) (na mo nm rs : Nat) (D mny : Nat → Int32) (nA rA : Nat → Nat) (j x2 x3 : Nat) (N f g : Nat → Int32) (p0 p1 p2 : Int32) (yo : Nat) (h0 : Nat → Int64) (sz : Nat) (hj : okI p0 16 = true → p0 = nI j ∧ j < 16) (hk : (kSetRec N p0 p1 p2) = 0) : Met l yL_setRecord wsL_setRecord ({ frames := 8, cells := 4, slots := 24, locals := 128 } : Room) (PL_setRecord_ok G T na mo nm rs D mny nA rA j x2 x3 N f g p0 p1 p2 yo h0 sz) (QL_setRecord_ok G T na mo nm rs D mny nA rA j x2 x3 N f g p0 p1 p2 yo h0 sz) 4 24 (va_A (([(yo, .inl (T 4, 1, .inr (.inl h0)))]) ++ (cA T na mo nm rs D mny nA rA) ++ (cN T (nA j) x2 x3 N f g)) sz) := by
  refine va_MetW (cc := cL_setRecord) (maxL := 6) (ret := (some .int)) (hh := [(0, 12, 15, 13), (0, 12, 19, 15), (0, 12, 23, 25)]) (by decide) rfl ?_
  intro p e s m args below meth c s₁ B hml hv
  obtain ⟨rfl, hsz, hP, hK, hD0, hE⟩ := hv
  have hx := B.exec
  have hb := B.bytes
  have hr := B.returns
  have hts := atoms_spec (ws := wsL_setRecord) B.pre
  have hown : s.vm.findClass RL = some m.cls := findClass_of_methodNamed B.named
  have hlocks := B.notSynchronized
  have htab : c.exceptionTable.toList = tableOf [(0, 12, 15, 13), (0, 12, 19, 15), (0, 12, 23, 25)] := vx_table (x := yL_setRecord) B (hts _ List.mem_cons_self)
  subst hsz
  have hD := hD0.self (sz := s.heap.size)
  have hA : ∀ q : Nat, s.heap.size ≤ q → (va_A (([(yo, .inl (T 4, 1, .inr (.inl h0)))]) ++ (cA T na mo nm rs D mny nA rA) ++ (cN T (nA j) x2 x3 N f g)) s.heap.size) q := fun q h => Or.inr h
  have hS : va_S (va_A (([(yo, .inl (T 4, 1, .inr (.inl h0)))]) ++ (cA T na mo nm rs D mny nA rA) ++ (cN T (nA j) x2 x3 N f g)) s.heap.size) s.heap s.heap [] := va_S.rf
  have hl := lv_entry ([.ref na, .int p0, .int p1, .int p2, .ref yo]) (n := 6) (Nat.le_of_ble_eq_true rfl)
  rw [lg_entry_eq]
  generalize (lg_sl ([.ref na, .int p0, .int p1, .int p2, .ref yo]) ++ List.replicate (6 - (lg_sl ([.ref na, .int p0, .int p1, .int p2, .ref yo])).length) Slot.unset).toArray = ls at hl ⊢
  have hl : lv_has ls 6 [(0, .ref na), (1, .int p0), (2, .int p1), (3, .int p2), (4, .ref yo)] := hl
  have hP : va_P G vwCl (([(yo, .inl (T 4, 1, .inr (.inl h0)))]) ++ (cA T na mo nm rs D mny nA rA) ++ (cN T (nA j) x2 x3 N f g)) s.heap := hP
  refine lv_aload hx hb dL_setRecord_0 (lv_at hl 4 rfl) ?_
  refine lv_iconst (v := 0) hx hb dL_setRecord_2 (by decide) ?_
  refine lv_aload_n hx hb dL_setRecord_3 rfl (lv_at hl 0 rfl) ?_
  refine lv_iload_n hx hb dL_setRecord_4 rfl (lv_at hl 1 rfl) ?_
  refine lv_iload_n hx hb dL_setRecord_5 rfl (lv_at hl 2 rfl) ?_
  refine lv_iload_n hx hb dL_setRecord_6 rfl (lv_at hl 3 rfl) ?_
  refine gxi (vx_runV (As := [.int p0, .int p1, .int p2]) (rest := [.int 0, .ref yo]) ⟨hx, hb, hml, hown, hts⟩ (kX2_setRecord l hl0 G T na mo nm rs D mny nA rA j x2 x3 N f g p0 p1 p2 _ hj) (cwV 3 hts gL_setRecord_X2_setRecord rfl rfl rfl (by decide +kernel) ⟨Nat.le_of_ble_eq_true rfl, Nat.le_of_ble_eq_true rfl⟩) ⟨gblind, va_recv hK hP (ci := 2) (q0 := 1) rfl rfl, gpre hE hK hP hD hS hA [1, 2, 3, 4, 5, 6, 7] rfl rfl⟩ rfl rfl hl.1 rfl (lv_room (Nat.le_of_ble_eq_true rfl)) dL_setRecord_7 ⟨Nat.le_of_ble_eq_true rfl, Nat.le_of_ble_eq_true rfl⟩) hP hD hS hA [1, 2, 3, 4, 5, 6, 7] rfl rfl (fun E9 ce9 q9 H locs he hP hD hS hce hcv hcl => ?_) (fun r9 H locs hw hP hD hS => ?_)
  · skip
    have hP : va_P G vwCl (([(yo, .inl (T 4, 1, .inr (.inl h0)))]) ++ (cA T na mo nm rs D mny nA rA) ++ (cN T (nA j) x2 x3 N f g)) H := hP
    have hD : va_D (va_A (([(yo, .inl (T 4, 1, .inr (.inl h0)))]) ++ (cA T na mo nm rs D mny nA rA) ++ (cN T (nA j) x2 x3 N f g)) s.heap.size) (([(yo, .inl (T 4, 1, .inr (.inl h0)))]) ++ (cA T na mo nm rs D mny nA rA) ++ (cN T (nA j) x2 x3 N f g)) := hD
    rcases he with ⟨hk9, rfl⟩ | ⟨hk9, rfl⟩ | ⟨hk9, rfl⟩
    · skip
      exact absurd (hk.symm.trans hk9) (by decide)
    · skip
      exact absurd (hk.symm.trans hk9) (by decide)
    · skip
      exact absurd (hk.symm.trans hk9) (by decide)
  · skip
    have hP : va_P G vwCl (([(yo, .inl (T 4, 1, .inr (.inl h0)))]) ++ (cA T na mo nm rs D mny nA rA) ++ (cN T (nA j) x2 x3 (upd (upd N 4 p1) 5 p2) f g)) H := hP
    have hD : va_D (va_A (([(yo, .inl (T 4, 1, .inr (.inl h0)))]) ++ (cA T na mo nm rs D mny nA rA) ++ (cN T (nA j) x2 x3 N f g)) s.heap.size) (([(yo, .inl (T 4, 1, .inr (.inl h0)))]) ++ (cA T na mo nm rs D mny nA rA) ++ (cN T (nA j) x2 x3 (upd (upd N 4 p1) 5 p2) f g)) := hD
    obtain ⟨hok7, hw⟩ := hw
    subst hw
    refine lv_i2l (v := (N 4).toInt64) hx hb dL_setRecord_10 rfl ?_
    refine glast (j := 0) hx hb hK hP hD hS 0 4 rfl rfl (show (0 : Int32) = nI 0 from rfl) (by omega) (by decide) dL_setRecord_11 (fun H locs hP hD hS => ?_)
    have hP : va_P G vwCl (([(yo, .inl (T 4, 1, .inr (.inl (vp_updL h0 0 ((N 4).toInt64)))))]) ++ (cA T na mo nm rs D mny nA rA) ++ (cN T (nA j) x2 x3 (upd (upd N 4 p1) 5 p2) f g)) H := hP
    have hD : va_D (va_A (([(yo, .inl (T 4, 1, .inr (.inl h0)))]) ++ (cA T na mo nm rs D mny nA rA) ++ (cN T (nA j) x2 x3 N f g)) s.heap.size) (([(yo, .inl (T 4, 1, .inr (.inl (vp_updL h0 0 ((N 4).toInt64)))))]) ++ (cA T na mo nm rs D mny nA rA) ++ (cN T (nA j) x2 x3 (upd (upd N 4 p1) 5 p2) f g)) := hD
    refine lv_goto (tgt := 27) hx hb dL_setRecord_12 (by decide) ?_
    refine lv_iconst (v := 0) hx hb dL_setRecord_27 (by decide) ?_
    exact W.iret (v := 0) hx hb hr (fun t ht9 hW => ⟨⟨0, (), rfl, rfl, gBi ht9 (gfin hP (rfl))⟩, hS.F ht9⟩) hS.2.2 dL_setRecord_28
abbrev PL_setRecord_no (G : va_G) (T : Nat → ClassId) (na mo nm rs : Nat) (D mny : Nat → Int32) (nA rA : Nat → Nat) (j x2 x3 : Nat) (N f g : Nat → Int32) (p0 p1 p2 : Int32) (yo : Nat) (h0 : Nat → Int64) (sz : Nat) : Array Value → State → Prop := gPc G T [.ref na, .int p0, .int p1, .int p2, .ref yo] (([(yo, .inl (T 4, 1, .inr (.inl h0)))]) ++ (cA T na mo nm rs D mny nA rA) ++ (cN T (nA j) x2 x3 N f g)) sz
abbrev QL_setRecord_no (G : va_G) (T : Nat → ClassId) (na mo nm rs : Nat) (D mny : Nat → Int32) (nA rA : Nat → Nat) (j x2 x3 : Nat) (N f g : Nat → Int32) (p0 p1 p2 : Int32) (yo : Nat) (h0 : Nat → Int64) (sz : Nat) : Array Value → State → Outcome → State → Prop := va_Qi (fun (r : Int32) (_ : Unit) => r = w3 (kSetRec N p0 p1 p2)) (gB G (([(yo, .inl (T 4, 1, .inr (.inl h0)))]) ++ (cA T na mo nm rs D mny nA rA) ++ (cN T (nA j) x2 x3 N f g))) (va_A (([(yo, .inl (T 4, 1, .inr (.inl h0)))]) ++ (cA T na mo nm rs D mny nA rA) ++ (cN T (nA j) x2 x3 N f g)) sz)
set_option maxHeartbeats 4000000 in
set_option maxRecDepth 100000 in
theorem kL_setRecord_no (l : Launch) (hl0 : l.stackTraces = false) (G : va_G) (T : Nat → ClassId) (na mo nm rs : Nat) (D mny : Nat → Int32) (nA rA : Nat → Nat) (j x2 x3 : Nat) (N f g : Nat → Int32) (p0 p1 p2 : Int32) (yo : Nat) (h0 : Nat → Int64) (sz : Nat) (hj : okI p0 16 = true → p0 = nI j ∧ j < 16) (hk : ¬ (kSetRec N p0 p1 p2) = 0) : Met l yL_setRecord wsL_setRecord ({ frames := 8, cells := 4, slots := 24, locals := 128 } : Room) (PL_setRecord_no G T na mo nm rs D mny nA rA j x2 x3 N f g p0 p1 p2 yo h0 sz) (QL_setRecord_no G T na mo nm rs D mny nA rA j x2 x3 N f g p0 p1 p2 yo h0 sz) 4 24 (va_A (([(yo, .inl (T 4, 1, .inr (.inl h0)))]) ++ (cA T na mo nm rs D mny nA rA) ++ (cN T (nA j) x2 x3 N f g)) sz) := by
  refine va_MetW (cc := cL_setRecord) (maxL := 6) (ret := (some .int)) (hh := [(0, 12, 15, 13), (0, 12, 19, 15), (0, 12, 23, 25)]) (by decide) rfl ?_
  intro p e s m args below meth c s₁ B hml hv
  obtain ⟨rfl, hsz, hP, hK, hD0, hE⟩ := hv
  have hx := B.exec
  have hb := B.bytes
  have hr := B.returns
  have hts := atoms_spec (ws := wsL_setRecord) B.pre
  have hown : s.vm.findClass RL = some m.cls := findClass_of_methodNamed B.named
  have hlocks := B.notSynchronized
  have htab : c.exceptionTable.toList = tableOf [(0, 12, 15, 13), (0, 12, 19, 15), (0, 12, 23, 25)] := vx_table (x := yL_setRecord) B (hts _ List.mem_cons_self)
  subst hsz
  have hD := hD0.self (sz := s.heap.size)
  have hA : ∀ q : Nat, s.heap.size ≤ q → (va_A (([(yo, .inl (T 4, 1, .inr (.inl h0)))]) ++ (cA T na mo nm rs D mny nA rA) ++ (cN T (nA j) x2 x3 N f g)) s.heap.size) q := fun q h => Or.inr h
  have hS : va_S (va_A (([(yo, .inl (T 4, 1, .inr (.inl h0)))]) ++ (cA T na mo nm rs D mny nA rA) ++ (cN T (nA j) x2 x3 N f g)) s.heap.size) s.heap s.heap [] := va_S.rf
  have hl := lv_entry ([.ref na, .int p0, .int p1, .int p2, .ref yo]) (n := 6) (Nat.le_of_ble_eq_true rfl)
  rw [lg_entry_eq]
  generalize (lg_sl ([.ref na, .int p0, .int p1, .int p2, .ref yo]) ++ List.replicate (6 - (lg_sl ([.ref na, .int p0, .int p1, .int p2, .ref yo])).length) Slot.unset).toArray = ls at hl ⊢
  have hl : lv_has ls 6 [(0, .ref na), (1, .int p0), (2, .int p1), (3, .int p2), (4, .ref yo)] := hl
  have hP : va_P G vwCl (([(yo, .inl (T 4, 1, .inr (.inl h0)))]) ++ (cA T na mo nm rs D mny nA rA) ++ (cN T (nA j) x2 x3 N f g)) s.heap := hP
  refine lv_aload hx hb dL_setRecord_0 (lv_at hl 4 rfl) ?_
  refine lv_iconst (v := 0) hx hb dL_setRecord_2 (by decide) ?_
  refine lv_aload_n hx hb dL_setRecord_3 rfl (lv_at hl 0 rfl) ?_
  refine lv_iload_n hx hb dL_setRecord_4 rfl (lv_at hl 1 rfl) ?_
  refine lv_iload_n hx hb dL_setRecord_5 rfl (lv_at hl 2 rfl) ?_
  refine lv_iload_n hx hb dL_setRecord_6 rfl (lv_at hl 3 rfl) ?_
  refine gxi (vx_runV (As := [.int p0, .int p1, .int p2]) (rest := [.int 0, .ref yo]) ⟨hx, hb, hml, hown, hts⟩ (kX2_setRecord l hl0 G T na mo nm rs D mny nA rA j x2 x3 N f g p0 p1 p2 _ hj) (cwV 3 hts gL_setRecord_X2_setRecord rfl rfl rfl (by decide +kernel) ⟨Nat.le_of_ble_eq_true rfl, Nat.le_of_ble_eq_true rfl⟩) ⟨gblind, va_recv hK hP (ci := 2) (q0 := 1) rfl rfl, gpre hE hK hP hD hS hA [1, 2, 3, 4, 5, 6, 7] rfl rfl⟩ rfl rfl hl.1 rfl (lv_room (Nat.le_of_ble_eq_true rfl)) dL_setRecord_7 ⟨Nat.le_of_ble_eq_true rfl, Nat.le_of_ble_eq_true rfl⟩) hP hD hS hA [1, 2, 3, 4, 5, 6, 7] rfl rfl (fun E9 ce9 q9 H locs he hP hD hS hce hcv hcl => ?_) (fun r9 H locs hw hP hD hS => ?_)
  · skip
    have hP : va_P G vwCl (([(yo, .inl (T 4, 1, .inr (.inl h0)))]) ++ (cA T na mo nm rs D mny nA rA) ++ (cN T (nA j) x2 x3 N f g)) H := hP
    have hD : va_D (va_A (([(yo, .inl (T 4, 1, .inr (.inl h0)))]) ++ (cA T na mo nm rs D mny nA rA) ++ (cN T (nA j) x2 x3 N f g)) s.heap.size) (([(yo, .inl (T 4, 1, .inr (.inl h0)))]) ++ (cA T na mo nm rs D mny nA rA) ++ (cN T (nA j) x2 x3 N f g)) := hD
    rcases he with ⟨hk9, rfl⟩ | ⟨hk9, rfl⟩ | ⟨hk9, rfl⟩
    · skip
      refine vx_catch (own := RL) (name := "java/lang/IndexOutOfBoundsException") hown [] ⟨0, 12, 15, 13⟩ [⟨0, 12, 19, 15⟩, ⟨0, 12, 23, 25⟩] (htab.trans rfl) (fun z hz => nomatch hz) rfl (by decide) (hts (.classLink RL 13 "java/lang/IndexOutOfBoundsException") (by decide +kernel)) (va_Nw.use rfl (hE.1 (.castable "java/lang/IndexOutOfBoundsException" "java/lang/IndexOutOfBoundsException") (by decide +kernel))) hce hcv hcl ?_
      refine lv_astore (lv' := [(5, .ref q9), (0, .ref na), (1, .int p0), (2, .int p1), (3, .int p2), (4, .ref yo)]) hx hb dL_setRecord_15 hl (by decide) rfl (fun ls hl => ?_)
      refine lv_iconst (v := 1) hx hb dL_setRecord_17 (by decide) ?_
      exact W.iret (v := 1) hx hb hr (fun t ht9 hW => ⟨⟨1, (), rfl, by rw [hk9]; rfl, gBi ht9 (gfin hP (rfl))⟩, hS.F ht9⟩) hS.2.2 dL_setRecord_18
    · skip
      refine vx_catch (own := RL) (name := "java/lang/IllegalArgumentException") hown [⟨0, 12, 15, 13⟩] ⟨0, 12, 19, 15⟩ [⟨0, 12, 23, 25⟩] (htab.trans rfl) (fun z hz => by cases List.mem_singleton.mp hz; exact Or.inr ⟨by decide, "java/lang/IndexOutOfBoundsException", hts (.classLink RL 13 "java/lang/IndexOutOfBoundsException") (by decide +kernel), hE.2.1.1⟩) rfl (by decide) (hts (.classLink RL 15 "java/lang/IllegalArgumentException") (by decide +kernel)) (va_Nw.use rfl (hE.1 (.castable "java/lang/IllegalArgumentException" "java/lang/IllegalArgumentException") (by decide +kernel))) hce hcv hcl ?_
      refine lv_astore (lv' := [(5, .ref q9), (0, .ref na), (1, .int p0), (2, .int p1), (3, .int p2), (4, .ref yo)]) hx hb dL_setRecord_19 hl (by decide) rfl (fun ls hl => ?_)
      refine lv_iconst (v := 2) hx hb dL_setRecord_21 (by decide) ?_
      exact W.iret (v := 2) hx hb hr (fun t ht9 hW => ⟨⟨2, (), rfl, by rw [hk9]; rfl, gBi ht9 (gfin hP (rfl))⟩, hS.F ht9⟩) hS.2.2 dL_setRecord_22
    · skip
      refine vx_catch (own := RL) (name := "java/lang/IllegalStateException") hown [⟨0, 12, 15, 13⟩, ⟨0, 12, 19, 15⟩] ⟨0, 12, 23, 25⟩ [] (htab.trans rfl) (fun z hz => by rcases List.mem_cons.mp hz with rfl | hz; exact Or.inr ⟨by decide, "java/lang/IndexOutOfBoundsException", hts (.classLink RL 13 "java/lang/IndexOutOfBoundsException") (by decide +kernel), hE.2.1.2.1⟩; cases List.mem_singleton.mp hz; exact Or.inr ⟨by decide, "java/lang/IllegalArgumentException", hts (.classLink RL 15 "java/lang/IllegalArgumentException") (by decide +kernel), hE.2.1.2.2⟩) rfl (by decide) (hts (.classLink RL 25 "java/lang/IllegalStateException") (by decide +kernel)) (va_Nw.use rfl (hE.1 (.castable "java/lang/IllegalStateException" "java/lang/IllegalStateException") (by decide +kernel))) hce hcv hcl ?_
      refine lv_astore (lv' := [(5, .ref q9), (0, .ref na), (1, .int p0), (2, .int p1), (3, .int p2), (4, .ref yo)]) hx hb dL_setRecord_23 hl (by decide) rfl (fun ls hl => ?_)
      refine lv_iconst (v := 3) hx hb dL_setRecord_25 (by decide) ?_
      exact W.iret (v := 3) hx hb hr (fun t ht9 hW => ⟨⟨3, (), rfl, by rw [hk9]; rfl, gBi ht9 (gfin hP (rfl))⟩, hS.F ht9⟩) hS.2.2 dL_setRecord_26
  · skip
    have hP : va_P G vwCl (([(yo, .inl (T 4, 1, .inr (.inl h0)))]) ++ (cA T na mo nm rs D mny nA rA) ++ (cN T (nA j) x2 x3 (upd (upd N 4 p1) 5 p2) f g)) H := hP
    have hD : va_D (va_A (([(yo, .inl (T 4, 1, .inr (.inl h0)))]) ++ (cA T na mo nm rs D mny nA rA) ++ (cN T (nA j) x2 x3 N f g)) s.heap.size) (([(yo, .inl (T 4, 1, .inr (.inl h0)))]) ++ (cA T na mo nm rs D mny nA rA) ++ (cN T (nA j) x2 x3 (upd (upd N 4 p1) 5 p2) f g)) := hD
    exact absurd hw.1 hk
abbrev PL_state_ok (G : va_G) (T : Nat → ClassId) (na mo nm rs : Nat) (D mny : Nat → Int32) (nA rA : Nat → Nat) (j x2 x3 : Nat) (N f g : Nat → Int32) (p0 : Int32) (yo : Nat) (h0 : Nat → Int64) (sz : Nat) : Array Value → State → Prop := gPc G T [.ref na, .int p0, .ref yo] (([(yo, .inl (T 4, 1, .inr (.inl h0)))]) ++ (cA T na mo nm rs D mny nA rA) ++ (cN T (nA j) x2 x3 N f g)) sz
abbrev QL_state_ok (G : va_G) (T : Nat → ClassId) (na mo nm rs : Nat) (D mny : Nat → Int32) (nA rA : Nat → Nat) (j x2 x3 : Nat) (N f g : Nat → Int32) (p0 : Int32) (yo : Nat) (h0 : Nat → Int64) (sz : Nat) : Array Value → State → Outcome → State → Prop := va_Qi (fun (r : Int32) (_ : Unit) => r = 0) (gB G (([(yo, .inl (T 4, 1, .inr (.inl (vp_updL h0 0 ((N 0).toInt64)))))]) ++ (cA T na mo nm rs D mny nA rA) ++ (cN T (nA j) x2 x3 N f g))) (va_A (([(yo, .inl (T 4, 1, .inr (.inl h0)))]) ++ (cA T na mo nm rs D mny nA rA) ++ (cN T (nA j) x2 x3 N f g)) sz)
set_option maxHeartbeats 4000000 in
set_option maxRecDepth 100000 in
theorem kL_state_ok (l : Launch) (hl0 : l.stackTraces = false) (G : va_G) (T : Nat → ClassId) (na mo nm rs : Nat) (D mny : Nat → Int32) (nA rA : Nat → Nat) (j x2 x3 : Nat) (N f g : Nat → Int32) (p0 : Int32) (yo : Nat) (h0 : Nat → Int64) (sz : Nat) (hj : okI p0 16 = true → p0 = nI j ∧ j < 16) (hk : (kNam p0) = 0) : Met l yL_state wsL_state ({ frames := 8, cells := 1, slots := 6, locals := 123 } : Room) (PL_state_ok G T na mo nm rs D mny nA rA j x2 x3 N f g p0 yo h0 sz) (QL_state_ok G T na mo nm rs D mny nA rA j x2 x3 N f g p0 yo h0 sz) 1 6 (va_A (([(yo, .inl (T 4, 1, .inr (.inl h0)))]) ++ (cA T na mo nm rs D mny nA rA) ++ (cN T (nA j) x2 x3 N f g)) sz) := by
  refine va_MetW (cc := cL_state) (maxL := 4) (ret := (some .int)) (hh := [(0, 9, 12, 13)]) (by decide) rfl ?_
  intro p e s m args below meth c s₁ B hml hv
  obtain ⟨rfl, hsz, hP, hK, hD0, hE⟩ := hv
  have hx := B.exec
  have hb := B.bytes
  have hr := B.returns
  have hts := atoms_spec (ws := wsL_state) B.pre
  have hown : s.vm.findClass RL = some m.cls := findClass_of_methodNamed B.named
  have hlocks := B.notSynchronized
  have htab : c.exceptionTable.toList = tableOf [(0, 9, 12, 13)] := vx_table (x := yL_state) B (hts _ List.mem_cons_self)
  subst hsz
  have hD := hD0.self (sz := s.heap.size)
  have hA : ∀ q : Nat, s.heap.size ≤ q → (va_A (([(yo, .inl (T 4, 1, .inr (.inl h0)))]) ++ (cA T na mo nm rs D mny nA rA) ++ (cN T (nA j) x2 x3 N f g)) s.heap.size) q := fun q h => Or.inr h
  have hS : va_S (va_A (([(yo, .inl (T 4, 1, .inr (.inl h0)))]) ++ (cA T na mo nm rs D mny nA rA) ++ (cN T (nA j) x2 x3 N f g)) s.heap.size) s.heap s.heap [] := va_S.rf
  have hl := lv_entry ([.ref na, .int p0, .ref yo]) (n := 4) (Nat.le_of_ble_eq_true rfl)
  rw [lg_entry_eq]
  generalize (lg_sl ([.ref na, .int p0, .ref yo]) ++ List.replicate (4 - (lg_sl ([.ref na, .int p0, .ref yo])).length) Slot.unset).toArray = ls at hl ⊢
  have hl : lv_has ls 4 [(0, .ref na), (1, .int p0), (2, .ref yo)] := hl
  have hP : va_P G vwCl (([(yo, .inl (T 4, 1, .inr (.inl h0)))]) ++ (cA T na mo nm rs D mny nA rA) ++ (cN T (nA j) x2 x3 N f g)) s.heap := hP
  refine lv_aload_n hx hb dL_state_0 rfl (lv_at hl 2 rfl) ?_
  refine lv_iconst (v := 0) hx hb dL_state_1 (by decide) ?_
  refine lv_aload_n hx hb dL_state_2 rfl (lv_at hl 0 rfl) ?_
  refine lv_iload_n hx hb dL_state_3 rfl (lv_at hl 1 rfl) ?_
  refine gxi (vx_runV (As := [.int p0]) (rest := [.int 0, .ref yo]) ⟨hx, hb, hml, hown, hts⟩ (kX2_state l hl0 G T na mo nm rs D mny nA rA j x2 x3 N f g p0 _ hj) (cwV 1 hts gL_state_X2_state rfl rfl rfl (by decide +kernel) ⟨Nat.le_of_ble_eq_true rfl, Nat.le_of_ble_eq_true rfl⟩) ⟨gblind, va_recv hK hP (ci := 2) (q0 := 1) rfl rfl, gpre hE hK hP hD hS hA [1, 2, 3, 4, 5, 6, 7] rfl rfl⟩ rfl rfl hl.1 rfl (lv_room (Nat.le_of_ble_eq_true rfl)) dL_state_4 ⟨Nat.le_of_ble_eq_true rfl, Nat.le_of_ble_eq_true rfl⟩) hP hD hS hA [1, 2, 3, 4, 5, 6, 7] rfl rfl (fun E9 ce9 q9 H locs he hP hD hS hce hcv hcl => ?_) (fun r9 H locs hw hP hD hS => ?_)
  · skip
    have hP : va_P G vwCl (([(yo, .inl (T 4, 1, .inr (.inl h0)))]) ++ (cA T na mo nm rs D mny nA rA) ++ (cN T (nA j) x2 x3 N f g)) H := hP
    have hD : va_D (va_A (([(yo, .inl (T 4, 1, .inr (.inl h0)))]) ++ (cA T na mo nm rs D mny nA rA) ++ (cN T (nA j) x2 x3 N f g)) s.heap.size) (([(yo, .inl (T 4, 1, .inr (.inl h0)))]) ++ (cA T na mo nm rs D mny nA rA) ++ (cN T (nA j) x2 x3 N f g)) := hD
    rcases he with ⟨hk9, rfl⟩ | ⟨hk9, rfl⟩ | ⟨hk9, rfl⟩
    · skip
      exact absurd (hk.symm.trans hk9) (by decide)
    · skip
      exact absurd (hk.symm.trans hk9) (by decide)
    · skip
      exact absurd (hk.symm.trans hk9) (by decide)
  · skip
    have hP : va_P G vwCl (([(yo, .inl (T 4, 1, .inr (.inl h0)))]) ++ (cA T na mo nm rs D mny nA rA) ++ (cN T (nA j) x2 x3 N f g)) H := hP
    have hD : va_D (va_A (([(yo, .inl (T 4, 1, .inr (.inl h0)))]) ++ (cA T na mo nm rs D mny nA rA) ++ (cN T (nA j) x2 x3 N f g)) s.heap.size) (([(yo, .inl (T 4, 1, .inr (.inl h0)))]) ++ (cA T na mo nm rs D mny nA rA) ++ (cN T (nA j) x2 x3 N f g)) := hD
    obtain ⟨hok4, hw⟩ := hw
    subst hw
    refine lv_i2l (v := (N 0).toInt64) hx hb dL_state_7 rfl ?_
    refine glast (j := 0) hx hb hK hP hD hS 0 4 rfl rfl (show (0 : Int32) = nI 0 from rfl) (by omega) (by decide) dL_state_8 (fun H locs hP hD hS => ?_)
    have hP : va_P G vwCl (([(yo, .inl (T 4, 1, .inr (.inl (vp_updL h0 0 ((N 0).toInt64)))))]) ++ (cA T na mo nm rs D mny nA rA) ++ (cN T (nA j) x2 x3 N f g)) H := hP
    have hD : va_D (va_A (([(yo, .inl (T 4, 1, .inr (.inl h0)))]) ++ (cA T na mo nm rs D mny nA rA) ++ (cN T (nA j) x2 x3 N f g)) s.heap.size) (([(yo, .inl (T 4, 1, .inr (.inl (vp_updL h0 0 ((N 0).toInt64)))))]) ++ (cA T na mo nm rs D mny nA rA) ++ (cN T (nA j) x2 x3 N f g)) := hD
    refine lv_goto (tgt := 15) hx hb dL_state_9 (by decide) ?_
    refine lv_iconst (v := 0) hx hb dL_state_15 (by decide) ?_
    exact W.iret (v := 0) hx hb hr (fun t ht9 hW => ⟨⟨0, (), rfl, rfl, gBi ht9 (gfin hP (rfl))⟩, hS.F ht9⟩) hS.2.2 dL_state_16
abbrev PL_state_no (G : va_G) (T : Nat → ClassId) (na mo nm rs : Nat) (D mny : Nat → Int32) (nA rA : Nat → Nat) (j x2 x3 : Nat) (N f g : Nat → Int32) (p0 : Int32) (yo : Nat) (h0 : Nat → Int64) (sz : Nat) : Array Value → State → Prop := gPc G T [.ref na, .int p0, .ref yo] (([(yo, .inl (T 4, 1, .inr (.inl h0)))]) ++ (cA T na mo nm rs D mny nA rA) ++ (cN T (nA j) x2 x3 N f g)) sz
abbrev QL_state_no (G : va_G) (T : Nat → ClassId) (na mo nm rs : Nat) (D mny : Nat → Int32) (nA rA : Nat → Nat) (j x2 x3 : Nat) (N f g : Nat → Int32) (p0 : Int32) (yo : Nat) (h0 : Nat → Int64) (sz : Nat) : Array Value → State → Outcome → State → Prop := va_Qi (fun (r : Int32) (_ : Unit) => r = w3 (kNam p0)) (gB G (([(yo, .inl (T 4, 1, .inr (.inl h0)))]) ++ (cA T na mo nm rs D mny nA rA) ++ (cN T (nA j) x2 x3 N f g))) (va_A (([(yo, .inl (T 4, 1, .inr (.inl h0)))]) ++ (cA T na mo nm rs D mny nA rA) ++ (cN T (nA j) x2 x3 N f g)) sz)
set_option maxHeartbeats 4000000 in
set_option maxRecDepth 100000 in
theorem kL_state_no (l : Launch) (hl0 : l.stackTraces = false) (G : va_G) (T : Nat → ClassId) (na mo nm rs : Nat) (D mny : Nat → Int32) (nA rA : Nat → Nat) (j x2 x3 : Nat) (N f g : Nat → Int32) (p0 : Int32) (yo : Nat) (h0 : Nat → Int64) (sz : Nat) (hj : okI p0 16 = true → p0 = nI j ∧ j < 16) (hk : ¬ (kNam p0) = 0) : Met l yL_state wsL_state ({ frames := 8, cells := 1, slots := 6, locals := 123 } : Room) (PL_state_no G T na mo nm rs D mny nA rA j x2 x3 N f g p0 yo h0 sz) (QL_state_no G T na mo nm rs D mny nA rA j x2 x3 N f g p0 yo h0 sz) 1 6 (va_A (([(yo, .inl (T 4, 1, .inr (.inl h0)))]) ++ (cA T na mo nm rs D mny nA rA) ++ (cN T (nA j) x2 x3 N f g)) sz) := by
  refine va_MetW (cc := cL_state) (maxL := 4) (ret := (some .int)) (hh := [(0, 9, 12, 13)]) (by decide) rfl ?_
  intro p e s m args below meth c s₁ B hml hv
  obtain ⟨rfl, hsz, hP, hK, hD0, hE⟩ := hv
  have hx := B.exec
  have hb := B.bytes
  have hr := B.returns
  have hts := atoms_spec (ws := wsL_state) B.pre
  have hown : s.vm.findClass RL = some m.cls := findClass_of_methodNamed B.named
  have hlocks := B.notSynchronized
  have htab : c.exceptionTable.toList = tableOf [(0, 9, 12, 13)] := vx_table (x := yL_state) B (hts _ List.mem_cons_self)
  subst hsz
  have hD := hD0.self (sz := s.heap.size)
  have hA : ∀ q : Nat, s.heap.size ≤ q → (va_A (([(yo, .inl (T 4, 1, .inr (.inl h0)))]) ++ (cA T na mo nm rs D mny nA rA) ++ (cN T (nA j) x2 x3 N f g)) s.heap.size) q := fun q h => Or.inr h
  have hS : va_S (va_A (([(yo, .inl (T 4, 1, .inr (.inl h0)))]) ++ (cA T na mo nm rs D mny nA rA) ++ (cN T (nA j) x2 x3 N f g)) s.heap.size) s.heap s.heap [] := va_S.rf
  have hl := lv_entry ([.ref na, .int p0, .ref yo]) (n := 4) (Nat.le_of_ble_eq_true rfl)
  rw [lg_entry_eq]
  generalize (lg_sl ([.ref na, .int p0, .ref yo]) ++ List.replicate (4 - (lg_sl ([.ref na, .int p0, .ref yo])).length) Slot.unset).toArray = ls at hl ⊢
  have hl : lv_has ls 4 [(0, .ref na), (1, .int p0), (2, .ref yo)] := hl
  have hP : va_P G vwCl (([(yo, .inl (T 4, 1, .inr (.inl h0)))]) ++ (cA T na mo nm rs D mny nA rA) ++ (cN T (nA j) x2 x3 N f g)) s.heap := hP
  refine lv_aload_n hx hb dL_state_0 rfl (lv_at hl 2 rfl) ?_
  refine lv_iconst (v := 0) hx hb dL_state_1 (by decide) ?_
  refine lv_aload_n hx hb dL_state_2 rfl (lv_at hl 0 rfl) ?_
  refine lv_iload_n hx hb dL_state_3 rfl (lv_at hl 1 rfl) ?_
  refine gxi (vx_runV (As := [.int p0]) (rest := [.int 0, .ref yo]) ⟨hx, hb, hml, hown, hts⟩ (kX2_state l hl0 G T na mo nm rs D mny nA rA j x2 x3 N f g p0 _ hj) (cwV 1 hts gL_state_X2_state rfl rfl rfl (by decide +kernel) ⟨Nat.le_of_ble_eq_true rfl, Nat.le_of_ble_eq_true rfl⟩) ⟨gblind, va_recv hK hP (ci := 2) (q0 := 1) rfl rfl, gpre hE hK hP hD hS hA [1, 2, 3, 4, 5, 6, 7] rfl rfl⟩ rfl rfl hl.1 rfl (lv_room (Nat.le_of_ble_eq_true rfl)) dL_state_4 ⟨Nat.le_of_ble_eq_true rfl, Nat.le_of_ble_eq_true rfl⟩) hP hD hS hA [1, 2, 3, 4, 5, 6, 7] rfl rfl (fun E9 ce9 q9 H locs he hP hD hS hce hcv hcl => ?_) (fun r9 H locs hw hP hD hS => ?_)
  · skip
    have hP : va_P G vwCl (([(yo, .inl (T 4, 1, .inr (.inl h0)))]) ++ (cA T na mo nm rs D mny nA rA) ++ (cN T (nA j) x2 x3 N f g)) H := hP
    have hD : va_D (va_A (([(yo, .inl (T 4, 1, .inr (.inl h0)))]) ++ (cA T na mo nm rs D mny nA rA) ++ (cN T (nA j) x2 x3 N f g)) s.heap.size) (([(yo, .inl (T 4, 1, .inr (.inl h0)))]) ++ (cA T na mo nm rs D mny nA rA) ++ (cN T (nA j) x2 x3 N f g)) := hD
    rcases he with ⟨hk9, rfl⟩ | ⟨hk9, rfl⟩ | ⟨hk9, rfl⟩
    · skip
      refine vx_catch (own := RL) (name := "java/lang/IndexOutOfBoundsException") hown [] ⟨0, 9, 12, 13⟩ [] (htab.trans rfl) (fun z hz => nomatch hz) rfl (by decide) (hts (.classLink RL 13 "java/lang/IndexOutOfBoundsException") (by decide +kernel)) (va_Nw.use rfl (hE.1 (.castable "java/lang/IndexOutOfBoundsException" "java/lang/IndexOutOfBoundsException") (by decide +kernel))) hce hcv hcl ?_
      refine lv_astore_n (lv' := [(3, .ref q9), (0, .ref na), (1, .int p0), (2, .ref yo)]) hx hb dL_state_12 rfl hl (by decide) rfl (fun ls hl => ?_)
      refine lv_iconst (v := 1) hx hb dL_state_13 (by decide) ?_
      exact W.iret (v := 1) hx hb hr (fun t ht9 hW => ⟨⟨1, (), rfl, by rw [hk9]; rfl, gBi ht9 (gfin hP (rfl))⟩, hS.F ht9⟩) hS.2.2 dL_state_14
    · skip
      exact absurd hk9 (by simp only [kNam]; repeat (first | split | decide))
    · skip
      exact absurd hk9 (by simp only [kNam]; repeat (first | split | decide))
  · skip
    have hP : va_P G vwCl (([(yo, .inl (T 4, 1, .inr (.inl h0)))]) ++ (cA T na mo nm rs D mny nA rA) ++ (cN T (nA j) x2 x3 N f g)) H := hP
    have hD : va_D (va_A (([(yo, .inl (T 4, 1, .inr (.inl h0)))]) ++ (cA T na mo nm rs D mny nA rA) ++ (cN T (nA j) x2 x3 N f g)) s.heap.size) (([(yo, .inl (T 4, 1, .inr (.inl h0)))]) ++ (cA T na mo nm rs D mny nA rA) ++ (cN T (nA j) x2 x3 N f g)) := hD
    exact absurd hw.1 hk
abbrev PL_owner_ok (G : va_G) (T : Nat → ClassId) (na mo nm rs : Nat) (D mny : Nat → Int32) (nA rA : Nat → Nat) (j x2 x3 : Nat) (N f g : Nat → Int32) (p0 : Int32) (yo : Nat) (h0 : Nat → Int64) (sz : Nat) : Array Value → State → Prop := gPc G T [.ref na, .int p0, .ref yo] (([(yo, .inl (T 4, 1, .inr (.inl h0)))]) ++ (cA T na mo nm rs D mny nA rA) ++ (cN T (nA j) x2 x3 N f g)) sz
abbrev QL_owner_ok (G : va_G) (T : Nat → ClassId) (na mo nm rs : Nat) (D mny : Nat → Int32) (nA rA : Nat → Nat) (j x2 x3 : Nat) (N f g : Nat → Int32) (p0 : Int32) (yo : Nat) (h0 : Nat → Int64) (sz : Nat) : Array Value → State → Outcome → State → Prop := va_Qi (fun (r : Int32) (_ : Unit) => r = 0) (gB G (([(yo, .inl (T 4, 1, .inr (.inl (vp_updL h0 0 ((N 1).toInt64)))))]) ++ (cA T na mo nm rs D mny nA rA) ++ (cN T (nA j) x2 x3 N f g))) (va_A (([(yo, .inl (T 4, 1, .inr (.inl h0)))]) ++ (cA T na mo nm rs D mny nA rA) ++ (cN T (nA j) x2 x3 N f g)) sz)
set_option maxHeartbeats 4000000 in
set_option maxRecDepth 100000 in
theorem kL_owner_ok (l : Launch) (hl0 : l.stackTraces = false) (G : va_G) (T : Nat → ClassId) (na mo nm rs : Nat) (D mny : Nat → Int32) (nA rA : Nat → Nat) (j x2 x3 : Nat) (N f g : Nat → Int32) (p0 : Int32) (yo : Nat) (h0 : Nat → Int64) (sz : Nat) (hj : okI p0 16 = true → p0 = nI j ∧ j < 16) (hk : (kNam p0) = 0) : Met l yL_owner wsL_owner ({ frames := 8, cells := 1, slots := 6, locals := 123 } : Room) (PL_owner_ok G T na mo nm rs D mny nA rA j x2 x3 N f g p0 yo h0 sz) (QL_owner_ok G T na mo nm rs D mny nA rA j x2 x3 N f g p0 yo h0 sz) 1 6 (va_A (([(yo, .inl (T 4, 1, .inr (.inl h0)))]) ++ (cA T na mo nm rs D mny nA rA) ++ (cN T (nA j) x2 x3 N f g)) sz) := by
  refine va_MetW (cc := cL_owner) (maxL := 4) (ret := (some .int)) (hh := [(0, 9, 12, 13)]) (by decide) rfl ?_
  intro p e s m args below meth c s₁ B hml hv
  obtain ⟨rfl, hsz, hP, hK, hD0, hE⟩ := hv
  have hx := B.exec
  have hb := B.bytes
  have hr := B.returns
  have hts := atoms_spec (ws := wsL_owner) B.pre
  have hown : s.vm.findClass RL = some m.cls := findClass_of_methodNamed B.named
  have hlocks := B.notSynchronized
  have htab : c.exceptionTable.toList = tableOf [(0, 9, 12, 13)] := vx_table (x := yL_owner) B (hts _ List.mem_cons_self)
  subst hsz
  have hD := hD0.self (sz := s.heap.size)
  have hA : ∀ q : Nat, s.heap.size ≤ q → (va_A (([(yo, .inl (T 4, 1, .inr (.inl h0)))]) ++ (cA T na mo nm rs D mny nA rA) ++ (cN T (nA j) x2 x3 N f g)) s.heap.size) q := fun q h => Or.inr h
  have hS : va_S (va_A (([(yo, .inl (T 4, 1, .inr (.inl h0)))]) ++ (cA T na mo nm rs D mny nA rA) ++ (cN T (nA j) x2 x3 N f g)) s.heap.size) s.heap s.heap [] := va_S.rf
  have hl := lv_entry ([.ref na, .int p0, .ref yo]) (n := 4) (Nat.le_of_ble_eq_true rfl)
  rw [lg_entry_eq]
  generalize (lg_sl ([.ref na, .int p0, .ref yo]) ++ List.replicate (4 - (lg_sl ([.ref na, .int p0, .ref yo])).length) Slot.unset).toArray = ls at hl ⊢
  have hl : lv_has ls 4 [(0, .ref na), (1, .int p0), (2, .ref yo)] := hl
  have hP : va_P G vwCl (([(yo, .inl (T 4, 1, .inr (.inl h0)))]) ++ (cA T na mo nm rs D mny nA rA) ++ (cN T (nA j) x2 x3 N f g)) s.heap := hP
  refine lv_aload_n hx hb dL_owner_0 rfl (lv_at hl 2 rfl) ?_
  refine lv_iconst (v := 0) hx hb dL_owner_1 (by decide) ?_
  refine lv_aload_n hx hb dL_owner_2 rfl (lv_at hl 0 rfl) ?_
  refine lv_iload_n hx hb dL_owner_3 rfl (lv_at hl 1 rfl) ?_
  refine gxi (vx_runV (As := [.int p0]) (rest := [.int 0, .ref yo]) ⟨hx, hb, hml, hown, hts⟩ (kX2_owner l hl0 G T na mo nm rs D mny nA rA j x2 x3 N f g p0 _ hj) (cwV 1 hts gL_owner_X2_owner rfl rfl rfl (by decide +kernel) ⟨Nat.le_of_ble_eq_true rfl, Nat.le_of_ble_eq_true rfl⟩) ⟨gblind, va_recv hK hP (ci := 2) (q0 := 1) rfl rfl, gpre hE hK hP hD hS hA [1, 2, 3, 4, 5, 6, 7] rfl rfl⟩ rfl rfl hl.1 rfl (lv_room (Nat.le_of_ble_eq_true rfl)) dL_owner_4 ⟨Nat.le_of_ble_eq_true rfl, Nat.le_of_ble_eq_true rfl⟩) hP hD hS hA [1, 2, 3, 4, 5, 6, 7] rfl rfl (fun E9 ce9 q9 H locs he hP hD hS hce hcv hcl => ?_) (fun r9 H locs hw hP hD hS => ?_)
  · skip
    have hP : va_P G vwCl (([(yo, .inl (T 4, 1, .inr (.inl h0)))]) ++ (cA T na mo nm rs D mny nA rA) ++ (cN T (nA j) x2 x3 N f g)) H := hP
    have hD : va_D (va_A (([(yo, .inl (T 4, 1, .inr (.inl h0)))]) ++ (cA T na mo nm rs D mny nA rA) ++ (cN T (nA j) x2 x3 N f g)) s.heap.size) (([(yo, .inl (T 4, 1, .inr (.inl h0)))]) ++ (cA T na mo nm rs D mny nA rA) ++ (cN T (nA j) x2 x3 N f g)) := hD
    rcases he with ⟨hk9, rfl⟩ | ⟨hk9, rfl⟩ | ⟨hk9, rfl⟩
    · skip
      exact absurd (hk.symm.trans hk9) (by decide)
    · skip
      exact absurd (hk.symm.trans hk9) (by decide)
    · skip
      exact absurd (hk.symm.trans hk9) (by decide)
  · skip
    have hP : va_P G vwCl (([(yo, .inl (T 4, 1, .inr (.inl h0)))]) ++ (cA T na mo nm rs D mny nA rA) ++ (cN T (nA j) x2 x3 N f g)) H := hP
    have hD : va_D (va_A (([(yo, .inl (T 4, 1, .inr (.inl h0)))]) ++ (cA T na mo nm rs D mny nA rA) ++ (cN T (nA j) x2 x3 N f g)) s.heap.size) (([(yo, .inl (T 4, 1, .inr (.inl h0)))]) ++ (cA T na mo nm rs D mny nA rA) ++ (cN T (nA j) x2 x3 N f g)) := hD
    obtain ⟨hok4, hw⟩ := hw
    subst hw
    refine lv_i2l (v := (N 1).toInt64) hx hb dL_owner_7 rfl ?_
    refine glast (j := 0) hx hb hK hP hD hS 0 4 rfl rfl (show (0 : Int32) = nI 0 from rfl) (by omega) (by decide) dL_owner_8 (fun H locs hP hD hS => ?_)
    have hP : va_P G vwCl (([(yo, .inl (T 4, 1, .inr (.inl (vp_updL h0 0 ((N 1).toInt64)))))]) ++ (cA T na mo nm rs D mny nA rA) ++ (cN T (nA j) x2 x3 N f g)) H := hP
    have hD : va_D (va_A (([(yo, .inl (T 4, 1, .inr (.inl h0)))]) ++ (cA T na mo nm rs D mny nA rA) ++ (cN T (nA j) x2 x3 N f g)) s.heap.size) (([(yo, .inl (T 4, 1, .inr (.inl (vp_updL h0 0 ((N 1).toInt64)))))]) ++ (cA T na mo nm rs D mny nA rA) ++ (cN T (nA j) x2 x3 N f g)) := hD
    refine lv_goto (tgt := 15) hx hb dL_owner_9 (by decide) ?_
    refine lv_iconst (v := 0) hx hb dL_owner_15 (by decide) ?_
    exact W.iret (v := 0) hx hb hr (fun t ht9 hW => ⟨⟨0, (), rfl, rfl, gBi ht9 (gfin hP (rfl))⟩, hS.F ht9⟩) hS.2.2 dL_owner_16
abbrev PL_owner_no (G : va_G) (T : Nat → ClassId) (na mo nm rs : Nat) (D mny : Nat → Int32) (nA rA : Nat → Nat) (j x2 x3 : Nat) (N f g : Nat → Int32) (p0 : Int32) (yo : Nat) (h0 : Nat → Int64) (sz : Nat) : Array Value → State → Prop := gPc G T [.ref na, .int p0, .ref yo] (([(yo, .inl (T 4, 1, .inr (.inl h0)))]) ++ (cA T na mo nm rs D mny nA rA) ++ (cN T (nA j) x2 x3 N f g)) sz
abbrev QL_owner_no (G : va_G) (T : Nat → ClassId) (na mo nm rs : Nat) (D mny : Nat → Int32) (nA rA : Nat → Nat) (j x2 x3 : Nat) (N f g : Nat → Int32) (p0 : Int32) (yo : Nat) (h0 : Nat → Int64) (sz : Nat) : Array Value → State → Outcome → State → Prop := va_Qi (fun (r : Int32) (_ : Unit) => r = w3 (kNam p0)) (gB G (([(yo, .inl (T 4, 1, .inr (.inl h0)))]) ++ (cA T na mo nm rs D mny nA rA) ++ (cN T (nA j) x2 x3 N f g))) (va_A (([(yo, .inl (T 4, 1, .inr (.inl h0)))]) ++ (cA T na mo nm rs D mny nA rA) ++ (cN T (nA j) x2 x3 N f g)) sz)
set_option maxHeartbeats 4000000 in
set_option maxRecDepth 100000 in
theorem kL_owner_no (l : Launch) (hl0 : l.stackTraces = false) (G : va_G) (T : Nat → ClassId) (na mo nm rs : Nat) (D mny : Nat → Int32) (nA rA : Nat → Nat) (j x2 x3 : Nat) (N f g : Nat → Int32) (p0 : Int32) (yo : Nat) (h0 : Nat → Int64) (sz : Nat) (hj : okI p0 16 = true → p0 = nI j ∧ j < 16) (hk : ¬ (kNam p0) = 0) : Met l yL_owner wsL_owner ({ frames := 8, cells := 1, slots := 6, locals := 123 } : Room) (PL_owner_no G T na mo nm rs D mny nA rA j x2 x3 N f g p0 yo h0 sz) (QL_owner_no G T na mo nm rs D mny nA rA j x2 x3 N f g p0 yo h0 sz) 1 6 (va_A (([(yo, .inl (T 4, 1, .inr (.inl h0)))]) ++ (cA T na mo nm rs D mny nA rA) ++ (cN T (nA j) x2 x3 N f g)) sz) := by
  refine va_MetW (cc := cL_owner) (maxL := 4) (ret := (some .int)) (hh := [(0, 9, 12, 13)]) (by decide) rfl ?_
  intro p e s m args below meth c s₁ B hml hv
  obtain ⟨rfl, hsz, hP, hK, hD0, hE⟩ := hv
  have hx := B.exec
  have hb := B.bytes
  have hr := B.returns
  have hts := atoms_spec (ws := wsL_owner) B.pre
  have hown : s.vm.findClass RL = some m.cls := findClass_of_methodNamed B.named
  have hlocks := B.notSynchronized
  have htab : c.exceptionTable.toList = tableOf [(0, 9, 12, 13)] := vx_table (x := yL_owner) B (hts _ List.mem_cons_self)
  subst hsz
  have hD := hD0.self (sz := s.heap.size)
  have hA : ∀ q : Nat, s.heap.size ≤ q → (va_A (([(yo, .inl (T 4, 1, .inr (.inl h0)))]) ++ (cA T na mo nm rs D mny nA rA) ++ (cN T (nA j) x2 x3 N f g)) s.heap.size) q := fun q h => Or.inr h
  have hS : va_S (va_A (([(yo, .inl (T 4, 1, .inr (.inl h0)))]) ++ (cA T na mo nm rs D mny nA rA) ++ (cN T (nA j) x2 x3 N f g)) s.heap.size) s.heap s.heap [] := va_S.rf
  have hl := lv_entry ([.ref na, .int p0, .ref yo]) (n := 4) (Nat.le_of_ble_eq_true rfl)
  rw [lg_entry_eq]
  generalize (lg_sl ([.ref na, .int p0, .ref yo]) ++ List.replicate (4 - (lg_sl ([.ref na, .int p0, .ref yo])).length) Slot.unset).toArray = ls at hl ⊢
  have hl : lv_has ls 4 [(0, .ref na), (1, .int p0), (2, .ref yo)] := hl
  have hP : va_P G vwCl (([(yo, .inl (T 4, 1, .inr (.inl h0)))]) ++ (cA T na mo nm rs D mny nA rA) ++ (cN T (nA j) x2 x3 N f g)) s.heap := hP
  refine lv_aload_n hx hb dL_owner_0 rfl (lv_at hl 2 rfl) ?_
  refine lv_iconst (v := 0) hx hb dL_owner_1 (by decide) ?_
  refine lv_aload_n hx hb dL_owner_2 rfl (lv_at hl 0 rfl) ?_
  refine lv_iload_n hx hb dL_owner_3 rfl (lv_at hl 1 rfl) ?_
  refine gxi (vx_runV (As := [.int p0]) (rest := [.int 0, .ref yo]) ⟨hx, hb, hml, hown, hts⟩ (kX2_owner l hl0 G T na mo nm rs D mny nA rA j x2 x3 N f g p0 _ hj) (cwV 1 hts gL_owner_X2_owner rfl rfl rfl (by decide +kernel) ⟨Nat.le_of_ble_eq_true rfl, Nat.le_of_ble_eq_true rfl⟩) ⟨gblind, va_recv hK hP (ci := 2) (q0 := 1) rfl rfl, gpre hE hK hP hD hS hA [1, 2, 3, 4, 5, 6, 7] rfl rfl⟩ rfl rfl hl.1 rfl (lv_room (Nat.le_of_ble_eq_true rfl)) dL_owner_4 ⟨Nat.le_of_ble_eq_true rfl, Nat.le_of_ble_eq_true rfl⟩) hP hD hS hA [1, 2, 3, 4, 5, 6, 7] rfl rfl (fun E9 ce9 q9 H locs he hP hD hS hce hcv hcl => ?_) (fun r9 H locs hw hP hD hS => ?_)
  · skip
    have hP : va_P G vwCl (([(yo, .inl (T 4, 1, .inr (.inl h0)))]) ++ (cA T na mo nm rs D mny nA rA) ++ (cN T (nA j) x2 x3 N f g)) H := hP
    have hD : va_D (va_A (([(yo, .inl (T 4, 1, .inr (.inl h0)))]) ++ (cA T na mo nm rs D mny nA rA) ++ (cN T (nA j) x2 x3 N f g)) s.heap.size) (([(yo, .inl (T 4, 1, .inr (.inl h0)))]) ++ (cA T na mo nm rs D mny nA rA) ++ (cN T (nA j) x2 x3 N f g)) := hD
    rcases he with ⟨hk9, rfl⟩ | ⟨hk9, rfl⟩ | ⟨hk9, rfl⟩
    · skip
      refine vx_catch (own := RL) (name := "java/lang/IndexOutOfBoundsException") hown [] ⟨0, 9, 12, 13⟩ [] (htab.trans rfl) (fun z hz => nomatch hz) rfl (by decide) (hts (.classLink RL 13 "java/lang/IndexOutOfBoundsException") (by decide +kernel)) (va_Nw.use rfl (hE.1 (.castable "java/lang/IndexOutOfBoundsException" "java/lang/IndexOutOfBoundsException") (by decide +kernel))) hce hcv hcl ?_
      refine lv_astore_n (lv' := [(3, .ref q9), (0, .ref na), (1, .int p0), (2, .ref yo)]) hx hb dL_owner_12 rfl hl (by decide) rfl (fun ls hl => ?_)
      refine lv_iconst (v := 1) hx hb dL_owner_13 (by decide) ?_
      exact W.iret (v := 1) hx hb hr (fun t ht9 hW => ⟨⟨1, (), rfl, by rw [hk9]; rfl, gBi ht9 (gfin hP (rfl))⟩, hS.F ht9⟩) hS.2.2 dL_owner_14
    · skip
      exact absurd hk9 (by simp only [kNam]; repeat (first | split | decide))
    · skip
      exact absurd hk9 (by simp only [kNam]; repeat (first | split | decide))
  · skip
    have hP : va_P G vwCl (([(yo, .inl (T 4, 1, .inr (.inl h0)))]) ++ (cA T na mo nm rs D mny nA rA) ++ (cN T (nA j) x2 x3 N f g)) H := hP
    have hD : va_D (va_A (([(yo, .inl (T 4, 1, .inr (.inl h0)))]) ++ (cA T na mo nm rs D mny nA rA) ++ (cN T (nA j) x2 x3 N f g)) s.heap.size) (([(yo, .inl (T 4, 1, .inr (.inl h0)))]) ++ (cA T na mo nm rs D mny nA rA) ++ (cN T (nA j) x2 x3 N f g)) := hD
    exact absurd hw.1 hk
abbrev PL_next_ok (G : va_G) (T : Nat → ClassId) (na mo nm rs : Nat) (D mny : Nat → Int32) (nA rA : Nat → Nat) (j x2 x3 : Nat) (N f g : Nat → Int32) (p0 : Int32) (yo : Nat) (h0 : Nat → Int64) (sz : Nat) : Array Value → State → Prop := gPc G T [.ref na, .int p0, .ref yo] (([(yo, .inl (T 4, 1, .inr (.inl h0)))]) ++ (cA T na mo nm rs D mny nA rA) ++ (cN T (nA j) x2 x3 N f g)) sz
abbrev QL_next_ok (G : va_G) (T : Nat → ClassId) (na mo nm rs : Nat) (D mny : Nat → Int32) (nA rA : Nat → Nat) (j x2 x3 : Nat) (N f g : Nat → Int32) (p0 : Int32) (yo : Nat) (h0 : Nat → Int64) (sz : Nat) : Array Value → State → Outcome → State → Prop := va_Qi (fun (r : Int32) (_ : Unit) => r = 0) (gB G (([(yo, .inl (T 4, 1, .inr (.inl (vp_updL h0 0 ((sDay N).toInt64)))))]) ++ (cA T na mo nm rs D mny nA rA) ++ (cN T (nA j) x2 x3 N f g))) (va_A (([(yo, .inl (T 4, 1, .inr (.inl h0)))]) ++ (cA T na mo nm rs D mny nA rA) ++ (cN T (nA j) x2 x3 N f g)) sz)
set_option maxHeartbeats 4000000 in
set_option maxRecDepth 100000 in
theorem kL_next_ok (l : Launch) (hl0 : l.stackTraces = false) (G : va_G) (T : Nat → ClassId) (na mo nm rs : Nat) (D mny : Nat → Int32) (nA rA : Nat → Nat) (j x2 x3 : Nat) (N f g : Nat → Int32) (p0 : Int32) (yo : Nat) (h0 : Nat → Int64) (sz : Nat) (hj : okI p0 16 = true → p0 = nI j ∧ j < 16) (hk : (kNam p0) = 0) : Met l yL_next wsL_next ({ frames := 8, cells := 1, slots := 6, locals := 123 } : Room) (PL_next_ok G T na mo nm rs D mny nA rA j x2 x3 N f g p0 yo h0 sz) (QL_next_ok G T na mo nm rs D mny nA rA j x2 x3 N f g p0 yo h0 sz) 1 6 (va_A (([(yo, .inl (T 4, 1, .inr (.inl h0)))]) ++ (cA T na mo nm rs D mny nA rA) ++ (cN T (nA j) x2 x3 N f g)) sz) := by
  refine va_MetW (cc := cL_next) (maxL := 4) (ret := (some .int)) (hh := [(0, 9, 12, 13)]) (by decide) rfl ?_
  intro p e s m args below meth c s₁ B hml hv
  obtain ⟨rfl, hsz, hP, hK, hD0, hE⟩ := hv
  have hx := B.exec
  have hb := B.bytes
  have hr := B.returns
  have hts := atoms_spec (ws := wsL_next) B.pre
  have hown : s.vm.findClass RL = some m.cls := findClass_of_methodNamed B.named
  have hlocks := B.notSynchronized
  have htab : c.exceptionTable.toList = tableOf [(0, 9, 12, 13)] := vx_table (x := yL_next) B (hts _ List.mem_cons_self)
  subst hsz
  have hD := hD0.self (sz := s.heap.size)
  have hA : ∀ q : Nat, s.heap.size ≤ q → (va_A (([(yo, .inl (T 4, 1, .inr (.inl h0)))]) ++ (cA T na mo nm rs D mny nA rA) ++ (cN T (nA j) x2 x3 N f g)) s.heap.size) q := fun q h => Or.inr h
  have hS : va_S (va_A (([(yo, .inl (T 4, 1, .inr (.inl h0)))]) ++ (cA T na mo nm rs D mny nA rA) ++ (cN T (nA j) x2 x3 N f g)) s.heap.size) s.heap s.heap [] := va_S.rf
  have hl := lv_entry ([.ref na, .int p0, .ref yo]) (n := 4) (Nat.le_of_ble_eq_true rfl)
  rw [lg_entry_eq]
  generalize (lg_sl ([.ref na, .int p0, .ref yo]) ++ List.replicate (4 - (lg_sl ([.ref na, .int p0, .ref yo])).length) Slot.unset).toArray = ls at hl ⊢
  have hl : lv_has ls 4 [(0, .ref na), (1, .int p0), (2, .ref yo)] := hl
  have hP : va_P G vwCl (([(yo, .inl (T 4, 1, .inr (.inl h0)))]) ++ (cA T na mo nm rs D mny nA rA) ++ (cN T (nA j) x2 x3 N f g)) s.heap := hP
  refine lv_aload_n hx hb dL_next_0 rfl (lv_at hl 2 rfl) ?_
  refine lv_iconst (v := 0) hx hb dL_next_1 (by decide) ?_
  refine lv_aload_n hx hb dL_next_2 rfl (lv_at hl 0 rfl) ?_
  refine lv_iload_n hx hb dL_next_3 rfl (lv_at hl 1 rfl) ?_
  refine gxi (vx_runV (As := [.int p0]) (rest := [.int 0, .ref yo]) ⟨hx, hb, hml, hown, hts⟩ (kX2_next l hl0 G T na mo nm rs D mny nA rA j x2 x3 N f g p0 _ hj) (cwV 1 hts gL_next_X2_next rfl rfl rfl (by decide +kernel) ⟨Nat.le_of_ble_eq_true rfl, Nat.le_of_ble_eq_true rfl⟩) ⟨gblind, va_recv hK hP (ci := 2) (q0 := 1) rfl rfl, gpre hE hK hP hD hS hA [1, 2, 3, 4, 5, 6, 7] rfl rfl⟩ rfl rfl hl.1 rfl (lv_room (Nat.le_of_ble_eq_true rfl)) dL_next_4 ⟨Nat.le_of_ble_eq_true rfl, Nat.le_of_ble_eq_true rfl⟩) hP hD hS hA [1, 2, 3, 4, 5, 6, 7] rfl rfl (fun E9 ce9 q9 H locs he hP hD hS hce hcv hcl => ?_) (fun r9 H locs hw hP hD hS => ?_)
  · skip
    have hP : va_P G vwCl (([(yo, .inl (T 4, 1, .inr (.inl h0)))]) ++ (cA T na mo nm rs D mny nA rA) ++ (cN T (nA j) x2 x3 N f g)) H := hP
    have hD : va_D (va_A (([(yo, .inl (T 4, 1, .inr (.inl h0)))]) ++ (cA T na mo nm rs D mny nA rA) ++ (cN T (nA j) x2 x3 N f g)) s.heap.size) (([(yo, .inl (T 4, 1, .inr (.inl h0)))]) ++ (cA T na mo nm rs D mny nA rA) ++ (cN T (nA j) x2 x3 N f g)) := hD
    rcases he with ⟨hk9, rfl⟩ | ⟨hk9, rfl⟩ | ⟨hk9, rfl⟩
    · skip
      exact absurd (hk.symm.trans hk9) (by decide)
    · skip
      exact absurd (hk.symm.trans hk9) (by decide)
    · skip
      exact absurd (hk.symm.trans hk9) (by decide)
  · skip
    have hP : va_P G vwCl (([(yo, .inl (T 4, 1, .inr (.inl h0)))]) ++ (cA T na mo nm rs D mny nA rA) ++ (cN T (nA j) x2 x3 N f g)) H := hP
    have hD : va_D (va_A (([(yo, .inl (T 4, 1, .inr (.inl h0)))]) ++ (cA T na mo nm rs D mny nA rA) ++ (cN T (nA j) x2 x3 N f g)) s.heap.size) (([(yo, .inl (T 4, 1, .inr (.inl h0)))]) ++ (cA T na mo nm rs D mny nA rA) ++ (cN T (nA j) x2 x3 N f g)) := hD
    obtain ⟨hok4, hw⟩ := hw
    subst hw
    refine lv_i2l (v := (sDay N).toInt64) hx hb dL_next_7 rfl ?_
    refine glast (j := 0) hx hb hK hP hD hS 0 4 rfl rfl (show (0 : Int32) = nI 0 from rfl) (by omega) (by decide) dL_next_8 (fun H locs hP hD hS => ?_)
    have hP : va_P G vwCl (([(yo, .inl (T 4, 1, .inr (.inl (vp_updL h0 0 ((sDay N).toInt64)))))]) ++ (cA T na mo nm rs D mny nA rA) ++ (cN T (nA j) x2 x3 N f g)) H := hP
    have hD : va_D (va_A (([(yo, .inl (T 4, 1, .inr (.inl h0)))]) ++ (cA T na mo nm rs D mny nA rA) ++ (cN T (nA j) x2 x3 N f g)) s.heap.size) (([(yo, .inl (T 4, 1, .inr (.inl (vp_updL h0 0 ((sDay N).toInt64)))))]) ++ (cA T na mo nm rs D mny nA rA) ++ (cN T (nA j) x2 x3 N f g)) := hD
    refine lv_goto (tgt := 15) hx hb dL_next_9 (by decide) ?_
    refine lv_iconst (v := 0) hx hb dL_next_15 (by decide) ?_
    exact W.iret (v := 0) hx hb hr (fun t ht9 hW => ⟨⟨0, (), rfl, rfl, gBi ht9 (gfin hP (rfl))⟩, hS.F ht9⟩) hS.2.2 dL_next_16
abbrev PL_next_no (G : va_G) (T : Nat → ClassId) (na mo nm rs : Nat) (D mny : Nat → Int32) (nA rA : Nat → Nat) (j x2 x3 : Nat) (N f g : Nat → Int32) (p0 : Int32) (yo : Nat) (h0 : Nat → Int64) (sz : Nat) : Array Value → State → Prop := gPc G T [.ref na, .int p0, .ref yo] (([(yo, .inl (T 4, 1, .inr (.inl h0)))]) ++ (cA T na mo nm rs D mny nA rA) ++ (cN T (nA j) x2 x3 N f g)) sz
abbrev QL_next_no (G : va_G) (T : Nat → ClassId) (na mo nm rs : Nat) (D mny : Nat → Int32) (nA rA : Nat → Nat) (j x2 x3 : Nat) (N f g : Nat → Int32) (p0 : Int32) (yo : Nat) (h0 : Nat → Int64) (sz : Nat) : Array Value → State → Outcome → State → Prop := va_Qi (fun (r : Int32) (_ : Unit) => r = w3 (kNam p0)) (gB G (([(yo, .inl (T 4, 1, .inr (.inl h0)))]) ++ (cA T na mo nm rs D mny nA rA) ++ (cN T (nA j) x2 x3 N f g))) (va_A (([(yo, .inl (T 4, 1, .inr (.inl h0)))]) ++ (cA T na mo nm rs D mny nA rA) ++ (cN T (nA j) x2 x3 N f g)) sz)
set_option maxHeartbeats 4000000 in
set_option maxRecDepth 100000 in
theorem kL_next_no (l : Launch) (hl0 : l.stackTraces = false) (G : va_G) (T : Nat → ClassId) (na mo nm rs : Nat) (D mny : Nat → Int32) (nA rA : Nat → Nat) (j x2 x3 : Nat) (N f g : Nat → Int32) (p0 : Int32) (yo : Nat) (h0 : Nat → Int64) (sz : Nat) (hj : okI p0 16 = true → p0 = nI j ∧ j < 16) (hk : ¬ (kNam p0) = 0) : Met l yL_next wsL_next ({ frames := 8, cells := 1, slots := 6, locals := 123 } : Room) (PL_next_no G T na mo nm rs D mny nA rA j x2 x3 N f g p0 yo h0 sz) (QL_next_no G T na mo nm rs D mny nA rA j x2 x3 N f g p0 yo h0 sz) 1 6 (va_A (([(yo, .inl (T 4, 1, .inr (.inl h0)))]) ++ (cA T na mo nm rs D mny nA rA) ++ (cN T (nA j) x2 x3 N f g)) sz) := by
  refine va_MetW (cc := cL_next) (maxL := 4) (ret := (some .int)) (hh := [(0, 9, 12, 13)]) (by decide) rfl ?_
  intro p e s m args below meth c s₁ B hml hv
  obtain ⟨rfl, hsz, hP, hK, hD0, hE⟩ := hv
  have hx := B.exec
  have hb := B.bytes
  have hr := B.returns
  have hts := atoms_spec (ws := wsL_next) B.pre
  have hown : s.vm.findClass RL = some m.cls := findClass_of_methodNamed B.named
  have hlocks := B.notSynchronized
  have htab : c.exceptionTable.toList = tableOf [(0, 9, 12, 13)] := vx_table (x := yL_next) B (hts _ List.mem_cons_self)
  subst hsz
  have hD := hD0.self (sz := s.heap.size)
  have hA : ∀ q : Nat, s.heap.size ≤ q → (va_A (([(yo, .inl (T 4, 1, .inr (.inl h0)))]) ++ (cA T na mo nm rs D mny nA rA) ++ (cN T (nA j) x2 x3 N f g)) s.heap.size) q := fun q h => Or.inr h
  have hS : va_S (va_A (([(yo, .inl (T 4, 1, .inr (.inl h0)))]) ++ (cA T na mo nm rs D mny nA rA) ++ (cN T (nA j) x2 x3 N f g)) s.heap.size) s.heap s.heap [] := va_S.rf
  have hl := lv_entry ([.ref na, .int p0, .ref yo]) (n := 4) (Nat.le_of_ble_eq_true rfl)
  rw [lg_entry_eq]
  generalize (lg_sl ([.ref na, .int p0, .ref yo]) ++ List.replicate (4 - (lg_sl ([.ref na, .int p0, .ref yo])).length) Slot.unset).toArray = ls at hl ⊢
  have hl : lv_has ls 4 [(0, .ref na), (1, .int p0), (2, .ref yo)] := hl
  have hP : va_P G vwCl (([(yo, .inl (T 4, 1, .inr (.inl h0)))]) ++ (cA T na mo nm rs D mny nA rA) ++ (cN T (nA j) x2 x3 N f g)) s.heap := hP
  refine lv_aload_n hx hb dL_next_0 rfl (lv_at hl 2 rfl) ?_
  refine lv_iconst (v := 0) hx hb dL_next_1 (by decide) ?_
  refine lv_aload_n hx hb dL_next_2 rfl (lv_at hl 0 rfl) ?_
  refine lv_iload_n hx hb dL_next_3 rfl (lv_at hl 1 rfl) ?_
  refine gxi (vx_runV (As := [.int p0]) (rest := [.int 0, .ref yo]) ⟨hx, hb, hml, hown, hts⟩ (kX2_next l hl0 G T na mo nm rs D mny nA rA j x2 x3 N f g p0 _ hj) (cwV 1 hts gL_next_X2_next rfl rfl rfl (by decide +kernel) ⟨Nat.le_of_ble_eq_true rfl, Nat.le_of_ble_eq_true rfl⟩) ⟨gblind, va_recv hK hP (ci := 2) (q0 := 1) rfl rfl, gpre hE hK hP hD hS hA [1, 2, 3, 4, 5, 6, 7] rfl rfl⟩ rfl rfl hl.1 rfl (lv_room (Nat.le_of_ble_eq_true rfl)) dL_next_4 ⟨Nat.le_of_ble_eq_true rfl, Nat.le_of_ble_eq_true rfl⟩) hP hD hS hA [1, 2, 3, 4, 5, 6, 7] rfl rfl (fun E9 ce9 q9 H locs he hP hD hS hce hcv hcl => ?_) (fun r9 H locs hw hP hD hS => ?_)
  · skip
    have hP : va_P G vwCl (([(yo, .inl (T 4, 1, .inr (.inl h0)))]) ++ (cA T na mo nm rs D mny nA rA) ++ (cN T (nA j) x2 x3 N f g)) H := hP
    have hD : va_D (va_A (([(yo, .inl (T 4, 1, .inr (.inl h0)))]) ++ (cA T na mo nm rs D mny nA rA) ++ (cN T (nA j) x2 x3 N f g)) s.heap.size) (([(yo, .inl (T 4, 1, .inr (.inl h0)))]) ++ (cA T na mo nm rs D mny nA rA) ++ (cN T (nA j) x2 x3 N f g)) := hD
    rcases he with ⟨hk9, rfl⟩ | ⟨hk9, rfl⟩ | ⟨hk9, rfl⟩
    · skip
      refine vx_catch (own := RL) (name := "java/lang/IndexOutOfBoundsException") hown [] ⟨0, 9, 12, 13⟩ [] (htab.trans rfl) (fun z hz => nomatch hz) rfl (by decide) (hts (.classLink RL 13 "java/lang/IndexOutOfBoundsException") (by decide +kernel)) (va_Nw.use rfl (hE.1 (.castable "java/lang/IndexOutOfBoundsException" "java/lang/IndexOutOfBoundsException") (by decide +kernel))) hce hcv hcl ?_
      refine lv_astore_n (lv' := [(3, .ref q9), (0, .ref na), (1, .int p0), (2, .ref yo)]) hx hb dL_next_12 rfl hl (by decide) rfl (fun ls hl => ?_)
      refine lv_iconst (v := 1) hx hb dL_next_13 (by decide) ?_
      exact W.iret (v := 1) hx hb hr (fun t ht9 hW => ⟨⟨1, (), rfl, by rw [hk9]; rfl, gBi ht9 (gfin hP (rfl))⟩, hS.F ht9⟩) hS.2.2 dL_next_14
    · skip
      exact absurd hk9 (by simp only [kNam]; repeat (first | split | decide))
    · skip
      exact absurd hk9 (by simp only [kNam]; repeat (first | split | decide))
  · skip
    have hP : va_P G vwCl (([(yo, .inl (T 4, 1, .inr (.inl h0)))]) ++ (cA T na mo nm rs D mny nA rA) ++ (cN T (nA j) x2 x3 N f g)) H := hP
    have hD : va_D (va_A (([(yo, .inl (T 4, 1, .inr (.inl h0)))]) ++ (cA T na mo nm rs D mny nA rA) ++ (cN T (nA j) x2 x3 N f g)) s.heap.size) (([(yo, .inl (T 4, 1, .inr (.inl h0)))]) ++ (cA T na mo nm rs D mny nA rA) ++ (cN T (nA j) x2 x3 N f g)) := hD
    exact absurd hw.1 hk
abbrev PL_dispute_ok (G : va_G) (T : Nat → ClassId) (na mo nm rs : Nat) (D mny : Nat → Int32) (nA rA : Nat → Nat) (j x2 x3 : Nat) (N f g : Nat → Int32) (p0 p1 : Int32) (yo : Nat) (h0 : Nat → Int64) (sz : Nat) : Array Value → State → Prop := gPc G T [.ref na, .int p0, .int p1, .ref yo] (([(yo, .inl (T 4, 1, .inr (.inl h0)))]) ++ (cA T na mo nm rs D mny nA rA) ++ (cN T (nA j) x2 x3 N f g)) sz
abbrev QL_dispute_ok (G : va_G) (T : Nat → ClassId) (na mo nm rs : Nat) (D mny : Nat → Int32) (nA rA : Nat → Nat) (j x2 x3 : Nat) (N f g : Nat → Int32) (p0 p1 : Int32) (yo : Nat) (h0 : Nat → Int64) (sz : Nat) : Array Value → State → Outcome → State → Prop := va_Qi (fun (r : Int32) (_ : Unit) => r = 0) (gB G (([(yo, .inl (T 4, 1, .inr (.inl (vp_updL h0 0 ((N 0).toInt64)))))]) ++ (cA T na mo nm rs D mny nA rA) ++ (cN T (nA j) x2 x3 (upd (upd (upd (upd N 6 (N 0)) 0 5) 7 p0) 8 (D 3)) (fun _ => 0) g))) (va_A (([(yo, .inl (T 4, 1, .inr (.inl h0)))]) ++ (cA T na mo nm rs D mny nA rA) ++ (cN T (nA j) x2 x3 N f g)) sz)
set_option maxHeartbeats 4000000 in
set_option maxRecDepth 100000 in
theorem kL_dispute_ok (l : Launch) (hl0 : l.stackTraces = false) (G : va_G) (T : Nat → ClassId) (na mo nm rs : Nat) (D mny : Nat → Int32) (nA rA : Nat → Nat) (j x2 x3 : Nat) (N f g : Nat → Int32) (p0 p1 : Int32) (yo : Nat) (h0 : Nat → Int64) (sz : Nat) (hj : okI p1 16 = true → p1 = nI j ∧ j < 16) (hk : (kDispute N p0 p1) = 0) : Met l yL_dispute wsL_dispute ({ frames := 8, cells := 3, slots := 18, locals := 126 } : Room) (PL_dispute_ok G T na mo nm rs D mny nA rA j x2 x3 N f g p0 p1 yo h0 sz) (QL_dispute_ok G T na mo nm rs D mny nA rA j x2 x3 N f g p0 p1 yo h0 sz) 3 18 (va_A (([(yo, .inl (T 4, 1, .inr (.inl h0)))]) ++ (cA T na mo nm rs D mny nA rA) ++ (cN T (nA j) x2 x3 N f g)) sz) := by
  refine va_MetW (cc := cL_dispute) (maxL := 5) (ret := (some .int)) (hh := [(0, 10, 13, 13), (0, 10, 17, 25)]) (by decide) rfl ?_
  intro p e s m args below meth c s₁ B hml hv
  obtain ⟨rfl, hsz, hP, hK, hD0, hE⟩ := hv
  have hx := B.exec
  have hb := B.bytes
  have hr := B.returns
  have hts := atoms_spec (ws := wsL_dispute) B.pre
  have hown : s.vm.findClass RL = some m.cls := findClass_of_methodNamed B.named
  have hlocks := B.notSynchronized
  have htab : c.exceptionTable.toList = tableOf [(0, 10, 13, 13), (0, 10, 17, 25)] := vx_table (x := yL_dispute) B (hts _ List.mem_cons_self)
  subst hsz
  have hD := hD0.self (sz := s.heap.size)
  have hA : ∀ q : Nat, s.heap.size ≤ q → (va_A (([(yo, .inl (T 4, 1, .inr (.inl h0)))]) ++ (cA T na mo nm rs D mny nA rA) ++ (cN T (nA j) x2 x3 N f g)) s.heap.size) q := fun q h => Or.inr h
  have hS : va_S (va_A (([(yo, .inl (T 4, 1, .inr (.inl h0)))]) ++ (cA T na mo nm rs D mny nA rA) ++ (cN T (nA j) x2 x3 N f g)) s.heap.size) s.heap s.heap [] := va_S.rf
  have hl := lv_entry ([.ref na, .int p0, .int p1, .ref yo]) (n := 5) (Nat.le_of_ble_eq_true rfl)
  rw [lg_entry_eq]
  generalize (lg_sl ([.ref na, .int p0, .int p1, .ref yo]) ++ List.replicate (5 - (lg_sl ([.ref na, .int p0, .int p1, .ref yo])).length) Slot.unset).toArray = ls at hl ⊢
  have hl : lv_has ls 5 [(0, .ref na), (1, .int p0), (2, .int p1), (3, .ref yo)] := hl
  have hP : va_P G vwCl (([(yo, .inl (T 4, 1, .inr (.inl h0)))]) ++ (cA T na mo nm rs D mny nA rA) ++ (cN T (nA j) x2 x3 N f g)) s.heap := hP
  refine lv_aload_n hx hb dL_dispute_0 rfl (lv_at hl 3 rfl) ?_
  refine lv_iconst (v := 0) hx hb dL_dispute_1 (by decide) ?_
  refine lv_aload_n hx hb dL_dispute_2 rfl (lv_at hl 0 rfl) ?_
  refine lv_iload_n hx hb dL_dispute_3 rfl (lv_at hl 1 rfl) ?_
  refine lv_iload_n hx hb dL_dispute_4 rfl (lv_at hl 2 rfl) ?_
  refine gxi (vx_runV (As := [.int p0, .int p1]) (rest := [.int 0, .ref yo]) ⟨hx, hb, hml, hown, hts⟩ (kX2_dispute l hl0 G T na mo nm rs D mny nA rA j x2 x3 N f g p0 p1 _ hj) (cwV 2 hts gL_dispute_X2_dispute rfl rfl rfl (by decide +kernel) ⟨Nat.le_of_ble_eq_true rfl, Nat.le_of_ble_eq_true rfl⟩) ⟨gblind, va_recv hK hP (ci := 2) (q0 := 1) rfl rfl, gpre hE hK hP hD hS hA [1, 2, 3, 4, 5, 6, 7] rfl rfl⟩ rfl rfl hl.1 rfl (lv_room (Nat.le_of_ble_eq_true rfl)) dL_dispute_5 ⟨Nat.le_of_ble_eq_true rfl, Nat.le_of_ble_eq_true rfl⟩) hP hD hS hA [1, 2, 3, 4, 5, 6, 7] rfl rfl (fun E9 ce9 q9 H locs he hP hD hS hce hcv hcl => ?_) (fun r9 H locs hw hP hD hS => ?_)
  · skip
    have hP : va_P G vwCl (([(yo, .inl (T 4, 1, .inr (.inl h0)))]) ++ (cA T na mo nm rs D mny nA rA) ++ (cN T (nA j) x2 x3 N f g)) H := hP
    have hD : va_D (va_A (([(yo, .inl (T 4, 1, .inr (.inl h0)))]) ++ (cA T na mo nm rs D mny nA rA) ++ (cN T (nA j) x2 x3 N f g)) s.heap.size) (([(yo, .inl (T 4, 1, .inr (.inl h0)))]) ++ (cA T na mo nm rs D mny nA rA) ++ (cN T (nA j) x2 x3 N f g)) := hD
    rcases he with ⟨hk9, rfl⟩ | ⟨hk9, rfl⟩ | ⟨hk9, rfl⟩
    · skip
      exact absurd (hk.symm.trans hk9) (by decide)
    · skip
      exact absurd (hk.symm.trans hk9) (by decide)
    · skip
      exact absurd (hk.symm.trans hk9) (by decide)
  · skip
    have hP : va_P G vwCl (([(yo, .inl (T 4, 1, .inr (.inl h0)))]) ++ (cA T na mo nm rs D mny nA rA) ++ (cN T (nA j) x2 x3 (upd (upd (upd (upd N 6 (N 0)) 0 5) 7 p0) 8 (D 3)) (fun _ => 0) g)) H := hP
    have hD : va_D (va_A (([(yo, .inl (T 4, 1, .inr (.inl h0)))]) ++ (cA T na mo nm rs D mny nA rA) ++ (cN T (nA j) x2 x3 N f g)) s.heap.size) (([(yo, .inl (T 4, 1, .inr (.inl h0)))]) ++ (cA T na mo nm rs D mny nA rA) ++ (cN T (nA j) x2 x3 (upd (upd (upd (upd N 6 (N 0)) 0 5) 7 p0) 8 (D 3)) (fun _ => 0) g)) := hD
    obtain ⟨hok5, hw⟩ := hw
    subst hw
    refine lv_i2l (v := (N 0).toInt64) hx hb dL_dispute_8 rfl ?_
    refine glast (j := 0) hx hb hK hP hD hS 0 4 rfl rfl (show (0 : Int32) = nI 0 from rfl) (by omega) (by decide) dL_dispute_9 (fun H locs hP hD hS => ?_)
    have hP : va_P G vwCl (([(yo, .inl (T 4, 1, .inr (.inl (vp_updL h0 0 ((N 0).toInt64)))))]) ++ (cA T na mo nm rs D mny nA rA) ++ (cN T (nA j) x2 x3 (upd (upd (upd (upd N 6 (N 0)) 0 5) 7 p0) 8 (D 3)) (fun _ => 0) g)) H := hP
    have hD : va_D (va_A (([(yo, .inl (T 4, 1, .inr (.inl h0)))]) ++ (cA T na mo nm rs D mny nA rA) ++ (cN T (nA j) x2 x3 N f g)) s.heap.size) (([(yo, .inl (T 4, 1, .inr (.inl (vp_updL h0 0 ((N 0).toInt64)))))]) ++ (cA T na mo nm rs D mny nA rA) ++ (cN T (nA j) x2 x3 (upd (upd (upd (upd N 6 (N 0)) 0 5) 7 p0) 8 (D 3)) (fun _ => 0) g)) := hD
    refine lv_goto (tgt := 21) hx hb dL_dispute_10 (by decide) ?_
    refine lv_iconst (v := 0) hx hb dL_dispute_21 (by decide) ?_
    exact W.iret (v := 0) hx hb hr (fun t ht9 hW => ⟨⟨0, (), rfl, rfl, gBi ht9 (gfin hP (rfl))⟩, hS.F ht9⟩) hS.2.2 dL_dispute_22
abbrev PL_dispute_no (G : va_G) (T : Nat → ClassId) (na mo nm rs : Nat) (D mny : Nat → Int32) (nA rA : Nat → Nat) (j x2 x3 : Nat) (N f g : Nat → Int32) (p0 p1 : Int32) (yo : Nat) (h0 : Nat → Int64) (sz : Nat) : Array Value → State → Prop := gPc G T [.ref na, .int p0, .int p1, .ref yo] (([(yo, .inl (T 4, 1, .inr (.inl h0)))]) ++ (cA T na mo nm rs D mny nA rA) ++ (cN T (nA j) x2 x3 N f g)) sz
abbrev QL_dispute_no (G : va_G) (T : Nat → ClassId) (na mo nm rs : Nat) (D mny : Nat → Int32) (nA rA : Nat → Nat) (j x2 x3 : Nat) (N f g : Nat → Int32) (p0 p1 : Int32) (yo : Nat) (h0 : Nat → Int64) (sz : Nat) : Array Value → State → Outcome → State → Prop := va_Qi (fun (r : Int32) (_ : Unit) => r = w13 (kDispute N p0 p1)) (gB G (([(yo, .inl (T 4, 1, .inr (.inl h0)))]) ++ (cA T na mo nm rs D mny nA rA) ++ (cN T (nA j) x2 x3 N f g))) (va_A (([(yo, .inl (T 4, 1, .inr (.inl h0)))]) ++ (cA T na mo nm rs D mny nA rA) ++ (cN T (nA j) x2 x3 N f g)) sz)
set_option maxHeartbeats 4000000 in
set_option maxRecDepth 100000 in
theorem kL_dispute_no (l : Launch) (hl0 : l.stackTraces = false) (G : va_G) (T : Nat → ClassId) (na mo nm rs : Nat) (D mny : Nat → Int32) (nA rA : Nat → Nat) (j x2 x3 : Nat) (N f g : Nat → Int32) (p0 p1 : Int32) (yo : Nat) (h0 : Nat → Int64) (sz : Nat) (hj : okI p1 16 = true → p1 = nI j ∧ j < 16) (hk : ¬ (kDispute N p0 p1) = 0) : Met l yL_dispute wsL_dispute ({ frames := 8, cells := 3, slots := 18, locals := 126 } : Room) (PL_dispute_no G T na mo nm rs D mny nA rA j x2 x3 N f g p0 p1 yo h0 sz) (QL_dispute_no G T na mo nm rs D mny nA rA j x2 x3 N f g p0 p1 yo h0 sz) 3 18 (va_A (([(yo, .inl (T 4, 1, .inr (.inl h0)))]) ++ (cA T na mo nm rs D mny nA rA) ++ (cN T (nA j) x2 x3 N f g)) sz) := by
  refine va_MetW (cc := cL_dispute) (maxL := 5) (ret := (some .int)) (hh := [(0, 10, 13, 13), (0, 10, 17, 25)]) (by decide) rfl ?_
  intro p e s m args below meth c s₁ B hml hv
  obtain ⟨rfl, hsz, hP, hK, hD0, hE⟩ := hv
  have hx := B.exec
  have hb := B.bytes
  have hr := B.returns
  have hts := atoms_spec (ws := wsL_dispute) B.pre
  have hown : s.vm.findClass RL = some m.cls := findClass_of_methodNamed B.named
  have hlocks := B.notSynchronized
  have htab : c.exceptionTable.toList = tableOf [(0, 10, 13, 13), (0, 10, 17, 25)] := vx_table (x := yL_dispute) B (hts _ List.mem_cons_self)
  subst hsz
  have hD := hD0.self (sz := s.heap.size)
  have hA : ∀ q : Nat, s.heap.size ≤ q → (va_A (([(yo, .inl (T 4, 1, .inr (.inl h0)))]) ++ (cA T na mo nm rs D mny nA rA) ++ (cN T (nA j) x2 x3 N f g)) s.heap.size) q := fun q h => Or.inr h
  have hS : va_S (va_A (([(yo, .inl (T 4, 1, .inr (.inl h0)))]) ++ (cA T na mo nm rs D mny nA rA) ++ (cN T (nA j) x2 x3 N f g)) s.heap.size) s.heap s.heap [] := va_S.rf
  have hl := lv_entry ([.ref na, .int p0, .int p1, .ref yo]) (n := 5) (Nat.le_of_ble_eq_true rfl)
  rw [lg_entry_eq]
  generalize (lg_sl ([.ref na, .int p0, .int p1, .ref yo]) ++ List.replicate (5 - (lg_sl ([.ref na, .int p0, .int p1, .ref yo])).length) Slot.unset).toArray = ls at hl ⊢
  have hl : lv_has ls 5 [(0, .ref na), (1, .int p0), (2, .int p1), (3, .ref yo)] := hl
  have hP : va_P G vwCl (([(yo, .inl (T 4, 1, .inr (.inl h0)))]) ++ (cA T na mo nm rs D mny nA rA) ++ (cN T (nA j) x2 x3 N f g)) s.heap := hP
  refine lv_aload_n hx hb dL_dispute_0 rfl (lv_at hl 3 rfl) ?_
  refine lv_iconst (v := 0) hx hb dL_dispute_1 (by decide) ?_
  refine lv_aload_n hx hb dL_dispute_2 rfl (lv_at hl 0 rfl) ?_
  refine lv_iload_n hx hb dL_dispute_3 rfl (lv_at hl 1 rfl) ?_
  refine lv_iload_n hx hb dL_dispute_4 rfl (lv_at hl 2 rfl) ?_
  refine gxi (vx_runV (As := [.int p0, .int p1]) (rest := [.int 0, .ref yo]) ⟨hx, hb, hml, hown, hts⟩ (kX2_dispute l hl0 G T na mo nm rs D mny nA rA j x2 x3 N f g p0 p1 _ hj) (cwV 2 hts gL_dispute_X2_dispute rfl rfl rfl (by decide +kernel) ⟨Nat.le_of_ble_eq_true rfl, Nat.le_of_ble_eq_true rfl⟩) ⟨gblind, va_recv hK hP (ci := 2) (q0 := 1) rfl rfl, gpre hE hK hP hD hS hA [1, 2, 3, 4, 5, 6, 7] rfl rfl⟩ rfl rfl hl.1 rfl (lv_room (Nat.le_of_ble_eq_true rfl)) dL_dispute_5 ⟨Nat.le_of_ble_eq_true rfl, Nat.le_of_ble_eq_true rfl⟩) hP hD hS hA [1, 2, 3, 4, 5, 6, 7] rfl rfl (fun E9 ce9 q9 H locs he hP hD hS hce hcv hcl => ?_) (fun r9 H locs hw hP hD hS => ?_)
  · skip
    have hP : va_P G vwCl (([(yo, .inl (T 4, 1, .inr (.inl h0)))]) ++ (cA T na mo nm rs D mny nA rA) ++ (cN T (nA j) x2 x3 N f g)) H := hP
    have hD : va_D (va_A (([(yo, .inl (T 4, 1, .inr (.inl h0)))]) ++ (cA T na mo nm rs D mny nA rA) ++ (cN T (nA j) x2 x3 N f g)) s.heap.size) (([(yo, .inl (T 4, 1, .inr (.inl h0)))]) ++ (cA T na mo nm rs D mny nA rA) ++ (cN T (nA j) x2 x3 N f g)) := hD
    rcases he with ⟨hk9, rfl⟩ | ⟨hk9, rfl⟩ | ⟨hk9, rfl⟩
    · skip
      refine vx_catch (own := RL) (name := "java/lang/IndexOutOfBoundsException") hown [] ⟨0, 10, 13, 13⟩ [⟨0, 10, 17, 25⟩] (htab.trans rfl) (fun z hz => nomatch hz) rfl (by decide) (hts (.classLink RL 13 "java/lang/IndexOutOfBoundsException") (by decide +kernel)) (va_Nw.use rfl (hE.1 (.castable "java/lang/IndexOutOfBoundsException" "java/lang/IndexOutOfBoundsException") (by decide +kernel))) hce hcv hcl ?_
      refine lv_astore (lv' := [(4, .ref q9), (0, .ref na), (1, .int p0), (2, .int p1), (3, .ref yo)]) hx hb dL_dispute_13 hl (by decide) rfl (fun ls hl => ?_)
      refine lv_iconst (v := 1) hx hb dL_dispute_15 (by decide) ?_
      exact W.iret (v := 1) hx hb hr (fun t ht9 hW => ⟨⟨1, (), rfl, by rw [hk9]; rfl, gBi ht9 (gfin hP (rfl))⟩, hS.F ht9⟩) hS.2.2 dL_dispute_16
    · skip
      exact absurd hk9 (by simp only [kDispute]; repeat (first | split | decide))
    · skip
      refine vx_catch (own := RL) (name := "java/lang/IllegalStateException") hown [⟨0, 10, 13, 13⟩] ⟨0, 10, 17, 25⟩ [] (htab.trans rfl) (fun z hz => by cases List.mem_singleton.mp hz; exact Or.inr ⟨by decide, "java/lang/IndexOutOfBoundsException", hts (.classLink RL 13 "java/lang/IndexOutOfBoundsException") (by decide +kernel), hE.2.1.2.1⟩) rfl (by decide) (hts (.classLink RL 25 "java/lang/IllegalStateException") (by decide +kernel)) (va_Nw.use rfl (hE.1 (.castable "java/lang/IllegalStateException" "java/lang/IllegalStateException") (by decide +kernel))) hce hcv hcl ?_
      refine lv_astore (lv' := [(4, .ref q9), (0, .ref na), (1, .int p0), (2, .int p1), (3, .ref yo)]) hx hb dL_dispute_17 hl (by decide) rfl (fun ls hl => ?_)
      refine lv_iconst (v := 2) hx hb dL_dispute_19 (by decide) ?_
      exact W.iret (v := 2) hx hb hr (fun t ht9 hW => ⟨⟨2, (), rfl, by rw [hk9]; rfl, gBi ht9 (gfin hP (rfl))⟩, hS.F ht9⟩) hS.2.2 dL_dispute_20
  · skip
    have hP : va_P G vwCl (([(yo, .inl (T 4, 1, .inr (.inl h0)))]) ++ (cA T na mo nm rs D mny nA rA) ++ (cN T (nA j) x2 x3 (upd (upd (upd (upd N 6 (N 0)) 0 5) 7 p0) 8 (D 3)) (fun _ => 0) g)) H := hP
    have hD : va_D (va_A (([(yo, .inl (T 4, 1, .inr (.inl h0)))]) ++ (cA T na mo nm rs D mny nA rA) ++ (cN T (nA j) x2 x3 N f g)) s.heap.size) (([(yo, .inl (T 4, 1, .inr (.inl h0)))]) ++ (cA T na mo nm rs D mny nA rA) ++ (cN T (nA j) x2 x3 (upd (upd (upd (upd N 6 (N 0)) 0 5) 7 p0) 8 (D 3)) (fun _ => 0) g)) := hD
    exact absurd hw.1 hk
abbrev PL_decide_ok (G : va_G) (T : Nat → ClassId) (na mo nm rs : Nat) (D mny : Nat → Int32) (nA rA : Nat → Nat) (j x2 x3 : Nat) (N f g : Nat → Int32) (p0 p1 : Int32) (yo : Nat) (h0 : Nat → Int64) (sz : Nat) : Array Value → State → Prop := gPc G T [.ref na, .int p0, .int p1, .ref yo] (([(yo, .inl (T 4, 1, .inr (.inl h0)))]) ++ (cA T na mo nm rs D mny nA rA) ++ (cN T (nA j) x2 x3 N f g)) sz
abbrev QL_decide_ok (G : va_G) (T : Nat → ClassId) (na mo nm rs : Nat) (D mny : Nat → Int32) (nA rA : Nat → Nat) (j x2 x3 : Nat) (N f g : Nat → Int32) (p0 p1 : Int32) (yo : Nat) (h0 : Nat → Int64) (sz : Nat) : Array Value → State → Outcome → State → Prop := va_Qi (fun (r : Int32) (_ : Unit) => r = 0) (gB G (([(yo, .inl (T 4, 1, .inr (.inl (vp_updL h0 0 ((sThaw N p1 (D 3) 0).toInt64)))))]) ++ (cA T na mo nm rs D mny nA rA) ++ (cN T (nA j) x2 x3 (sThaw N p1 (D 3)) (sThawF N f) g))) (va_A (([(yo, .inl (T 4, 1, .inr (.inl h0)))]) ++ (cA T na mo nm rs D mny nA rA) ++ (cN T (nA j) x2 x3 N f g)) sz)
set_option maxHeartbeats 4000000 in
set_option maxRecDepth 100000 in
theorem kL_decide_ok (l : Launch) (hl0 : l.stackTraces = false) (G : va_G) (T : Nat → ClassId) (na mo nm rs : Nat) (D mny : Nat → Int32) (nA rA : Nat → Nat) (j x2 x3 : Nat) (N f g : Nat → Int32) (p0 p1 : Int32) (yo : Nat) (h0 : Nat → Int64) (sz : Nat) (hj : okI p0 16 = true → p0 = nI j ∧ j < 16) (hk : (kDecide N p0) = 0) : Met l yL_decide wsL_decide ({ frames := 8, cells := 2, slots := 12, locals := 125 } : Room) (PL_decide_ok G T na mo nm rs D mny nA rA j x2 x3 N f g p0 p1 yo h0 sz) (QL_decide_ok G T na mo nm rs D mny nA rA j x2 x3 N f g p0 p1 yo h0 sz) 2 12 (va_A (([(yo, .inl (T 4, 1, .inr (.inl h0)))]) ++ (cA T na mo nm rs D mny nA rA) ++ (cN T (nA j) x2 x3 N f g)) sz) := by
  refine va_MetW (cc := cL_decide) (maxL := 5) (ret := (some .int)) (hh := [(0, 10, 13, 13), (0, 10, 17, 25)]) (by decide) rfl ?_
  intro p e s m args below meth c s₁ B hml hv
  obtain ⟨rfl, hsz, hP, hK, hD0, hE⟩ := hv
  have hx := B.exec
  have hb := B.bytes
  have hr := B.returns
  have hts := atoms_spec (ws := wsL_decide) B.pre
  have hown : s.vm.findClass RL = some m.cls := findClass_of_methodNamed B.named
  have hlocks := B.notSynchronized
  have htab : c.exceptionTable.toList = tableOf [(0, 10, 13, 13), (0, 10, 17, 25)] := vx_table (x := yL_decide) B (hts _ List.mem_cons_self)
  subst hsz
  have hD := hD0.self (sz := s.heap.size)
  have hA : ∀ q : Nat, s.heap.size ≤ q → (va_A (([(yo, .inl (T 4, 1, .inr (.inl h0)))]) ++ (cA T na mo nm rs D mny nA rA) ++ (cN T (nA j) x2 x3 N f g)) s.heap.size) q := fun q h => Or.inr h
  have hS : va_S (va_A (([(yo, .inl (T 4, 1, .inr (.inl h0)))]) ++ (cA T na mo nm rs D mny nA rA) ++ (cN T (nA j) x2 x3 N f g)) s.heap.size) s.heap s.heap [] := va_S.rf
  have hl := lv_entry ([.ref na, .int p0, .int p1, .ref yo]) (n := 5) (Nat.le_of_ble_eq_true rfl)
  rw [lg_entry_eq]
  generalize (lg_sl ([.ref na, .int p0, .int p1, .ref yo]) ++ List.replicate (5 - (lg_sl ([.ref na, .int p0, .int p1, .ref yo])).length) Slot.unset).toArray = ls at hl ⊢
  have hl : lv_has ls 5 [(0, .ref na), (1, .int p0), (2, .int p1), (3, .ref yo)] := hl
  have hP : va_P G vwCl (([(yo, .inl (T 4, 1, .inr (.inl h0)))]) ++ (cA T na mo nm rs D mny nA rA) ++ (cN T (nA j) x2 x3 N f g)) s.heap := hP
  refine lv_aload_n hx hb dL_decide_0 rfl (lv_at hl 3 rfl) ?_
  refine lv_iconst (v := 0) hx hb dL_decide_1 (by decide) ?_
  refine lv_aload_n hx hb dL_decide_2 rfl (lv_at hl 0 rfl) ?_
  refine lv_iload_n hx hb dL_decide_3 rfl (lv_at hl 1 rfl) ?_
  refine lv_iload_n hx hb dL_decide_4 rfl (lv_at hl 2 rfl) ?_
  refine gxi (vx_runV (As := [.int p0, .int p1]) (rest := [.int 0, .ref yo]) ⟨hx, hb, hml, hown, hts⟩ (kX2_decide l hl0 G T na mo nm rs D mny nA rA j x2 x3 N f g p0 p1 _ hj) (cwV 2 hts gL_decide_X2_decide rfl rfl rfl (by decide +kernel) ⟨Nat.le_of_ble_eq_true rfl, Nat.le_of_ble_eq_true rfl⟩) ⟨gblind, va_recv hK hP (ci := 2) (q0 := 1) rfl rfl, gpre hE hK hP hD hS hA [1, 2, 3, 4, 5, 6, 7] rfl rfl⟩ rfl rfl hl.1 rfl (lv_room (Nat.le_of_ble_eq_true rfl)) dL_decide_5 ⟨Nat.le_of_ble_eq_true rfl, Nat.le_of_ble_eq_true rfl⟩) hP hD hS hA [1, 2, 3, 4, 5, 6, 7] rfl rfl (fun E9 ce9 q9 H locs he hP hD hS hce hcv hcl => ?_) (fun r9 H locs hw hP hD hS => ?_)
  · skip
    have hP : va_P G vwCl (([(yo, .inl (T 4, 1, .inr (.inl h0)))]) ++ (cA T na mo nm rs D mny nA rA) ++ (cN T (nA j) x2 x3 N f g)) H := hP
    have hD : va_D (va_A (([(yo, .inl (T 4, 1, .inr (.inl h0)))]) ++ (cA T na mo nm rs D mny nA rA) ++ (cN T (nA j) x2 x3 N f g)) s.heap.size) (([(yo, .inl (T 4, 1, .inr (.inl h0)))]) ++ (cA T na mo nm rs D mny nA rA) ++ (cN T (nA j) x2 x3 N f g)) := hD
    rcases he with ⟨hk9, rfl⟩ | ⟨hk9, rfl⟩ | ⟨hk9, rfl⟩
    · skip
      exact absurd (hk.symm.trans hk9) (by decide)
    · skip
      exact absurd (hk.symm.trans hk9) (by decide)
    · skip
      exact absurd (hk.symm.trans hk9) (by decide)
  · skip
    have hP : va_P G vwCl (([(yo, .inl (T 4, 1, .inr (.inl h0)))]) ++ (cA T na mo nm rs D mny nA rA) ++ (cN T (nA j) x2 x3 (sThaw N p1 (D 3)) (sThawF N f) g)) H := hP
    have hD : va_D (va_A (([(yo, .inl (T 4, 1, .inr (.inl h0)))]) ++ (cA T na mo nm rs D mny nA rA) ++ (cN T (nA j) x2 x3 N f g)) s.heap.size) (([(yo, .inl (T 4, 1, .inr (.inl h0)))]) ++ (cA T na mo nm rs D mny nA rA) ++ (cN T (nA j) x2 x3 (sThaw N p1 (D 3)) (sThawF N f) g)) := hD
    obtain ⟨hok5, hw⟩ := hw
    subst hw
    refine lv_i2l (v := (sThaw N p1 (D 3) 0).toInt64) hx hb dL_decide_8 rfl ?_
    refine glast (j := 0) hx hb hK hP hD hS 0 4 rfl rfl (show (0 : Int32) = nI 0 from rfl) (by omega) (by decide) dL_decide_9 (fun H locs hP hD hS => ?_)
    have hP : va_P G vwCl (([(yo, .inl (T 4, 1, .inr (.inl (vp_updL h0 0 ((sThaw N p1 (D 3) 0).toInt64)))))]) ++ (cA T na mo nm rs D mny nA rA) ++ (cN T (nA j) x2 x3 (sThaw N p1 (D 3)) (sThawF N f) g)) H := hP
    have hD : va_D (va_A (([(yo, .inl (T 4, 1, .inr (.inl h0)))]) ++ (cA T na mo nm rs D mny nA rA) ++ (cN T (nA j) x2 x3 N f g)) s.heap.size) (([(yo, .inl (T 4, 1, .inr (.inl (vp_updL h0 0 ((sThaw N p1 (D 3) 0).toInt64)))))]) ++ (cA T na mo nm rs D mny nA rA) ++ (cN T (nA j) x2 x3 (sThaw N p1 (D 3)) (sThawF N f) g)) := hD
    refine lv_goto (tgt := 21) hx hb dL_decide_10 (by decide) ?_
    refine lv_iconst (v := 0) hx hb dL_decide_21 (by decide) ?_
    exact W.iret (v := 0) hx hb hr (fun t ht9 hW => ⟨⟨0, (), rfl, rfl, gBi ht9 (gfin hP (rfl))⟩, hS.F ht9⟩) hS.2.2 dL_decide_22
abbrev PL_decide_no (G : va_G) (T : Nat → ClassId) (na mo nm rs : Nat) (D mny : Nat → Int32) (nA rA : Nat → Nat) (j x2 x3 : Nat) (N f g : Nat → Int32) (p0 p1 : Int32) (yo : Nat) (h0 : Nat → Int64) (sz : Nat) : Array Value → State → Prop := gPc G T [.ref na, .int p0, .int p1, .ref yo] (([(yo, .inl (T 4, 1, .inr (.inl h0)))]) ++ (cA T na mo nm rs D mny nA rA) ++ (cN T (nA j) x2 x3 N f g)) sz
abbrev QL_decide_no (G : va_G) (T : Nat → ClassId) (na mo nm rs : Nat) (D mny : Nat → Int32) (nA rA : Nat → Nat) (j x2 x3 : Nat) (N f g : Nat → Int32) (p0 p1 : Int32) (yo : Nat) (h0 : Nat → Int64) (sz : Nat) : Array Value → State → Outcome → State → Prop := va_Qi (fun (r : Int32) (_ : Unit) => r = w13 (kDecide N p0)) (gB G (([(yo, .inl (T 4, 1, .inr (.inl h0)))]) ++ (cA T na mo nm rs D mny nA rA) ++ (cN T (nA j) x2 x3 N f g))) (va_A (([(yo, .inl (T 4, 1, .inr (.inl h0)))]) ++ (cA T na mo nm rs D mny nA rA) ++ (cN T (nA j) x2 x3 N f g)) sz)
set_option maxHeartbeats 4000000 in
set_option maxRecDepth 100000 in
theorem kL_decide_no (l : Launch) (hl0 : l.stackTraces = false) (G : va_G) (T : Nat → ClassId) (na mo nm rs : Nat) (D mny : Nat → Int32) (nA rA : Nat → Nat) (j x2 x3 : Nat) (N f g : Nat → Int32) (p0 p1 : Int32) (yo : Nat) (h0 : Nat → Int64) (sz : Nat) (hj : okI p0 16 = true → p0 = nI j ∧ j < 16) (hk : ¬ (kDecide N p0) = 0) : Met l yL_decide wsL_decide ({ frames := 8, cells := 2, slots := 12, locals := 125 } : Room) (PL_decide_no G T na mo nm rs D mny nA rA j x2 x3 N f g p0 p1 yo h0 sz) (QL_decide_no G T na mo nm rs D mny nA rA j x2 x3 N f g p0 p1 yo h0 sz) 2 12 (va_A (([(yo, .inl (T 4, 1, .inr (.inl h0)))]) ++ (cA T na mo nm rs D mny nA rA) ++ (cN T (nA j) x2 x3 N f g)) sz) := by
  refine va_MetW (cc := cL_decide) (maxL := 5) (ret := (some .int)) (hh := [(0, 10, 13, 13), (0, 10, 17, 25)]) (by decide) rfl ?_
  intro p e s m args below meth c s₁ B hml hv
  obtain ⟨rfl, hsz, hP, hK, hD0, hE⟩ := hv
  have hx := B.exec
  have hb := B.bytes
  have hr := B.returns
  have hts := atoms_spec (ws := wsL_decide) B.pre
  have hown : s.vm.findClass RL = some m.cls := findClass_of_methodNamed B.named
  have hlocks := B.notSynchronized
  have htab : c.exceptionTable.toList = tableOf [(0, 10, 13, 13), (0, 10, 17, 25)] := vx_table (x := yL_decide) B (hts _ List.mem_cons_self)
  subst hsz
  have hD := hD0.self (sz := s.heap.size)
  have hA : ∀ q : Nat, s.heap.size ≤ q → (va_A (([(yo, .inl (T 4, 1, .inr (.inl h0)))]) ++ (cA T na mo nm rs D mny nA rA) ++ (cN T (nA j) x2 x3 N f g)) s.heap.size) q := fun q h => Or.inr h
  have hS : va_S (va_A (([(yo, .inl (T 4, 1, .inr (.inl h0)))]) ++ (cA T na mo nm rs D mny nA rA) ++ (cN T (nA j) x2 x3 N f g)) s.heap.size) s.heap s.heap [] := va_S.rf
  have hl := lv_entry ([.ref na, .int p0, .int p1, .ref yo]) (n := 5) (Nat.le_of_ble_eq_true rfl)
  rw [lg_entry_eq]
  generalize (lg_sl ([.ref na, .int p0, .int p1, .ref yo]) ++ List.replicate (5 - (lg_sl ([.ref na, .int p0, .int p1, .ref yo])).length) Slot.unset).toArray = ls at hl ⊢
  have hl : lv_has ls 5 [(0, .ref na), (1, .int p0), (2, .int p1), (3, .ref yo)] := hl
  have hP : va_P G vwCl (([(yo, .inl (T 4, 1, .inr (.inl h0)))]) ++ (cA T na mo nm rs D mny nA rA) ++ (cN T (nA j) x2 x3 N f g)) s.heap := hP
  refine lv_aload_n hx hb dL_decide_0 rfl (lv_at hl 3 rfl) ?_
  refine lv_iconst (v := 0) hx hb dL_decide_1 (by decide) ?_
  refine lv_aload_n hx hb dL_decide_2 rfl (lv_at hl 0 rfl) ?_
  refine lv_iload_n hx hb dL_decide_3 rfl (lv_at hl 1 rfl) ?_
  refine lv_iload_n hx hb dL_decide_4 rfl (lv_at hl 2 rfl) ?_
  refine gxi (vx_runV (As := [.int p0, .int p1]) (rest := [.int 0, .ref yo]) ⟨hx, hb, hml, hown, hts⟩ (kX2_decide l hl0 G T na mo nm rs D mny nA rA j x2 x3 N f g p0 p1 _ hj) (cwV 2 hts gL_decide_X2_decide rfl rfl rfl (by decide +kernel) ⟨Nat.le_of_ble_eq_true rfl, Nat.le_of_ble_eq_true rfl⟩) ⟨gblind, va_recv hK hP (ci := 2) (q0 := 1) rfl rfl, gpre hE hK hP hD hS hA [1, 2, 3, 4, 5, 6, 7] rfl rfl⟩ rfl rfl hl.1 rfl (lv_room (Nat.le_of_ble_eq_true rfl)) dL_decide_5 ⟨Nat.le_of_ble_eq_true rfl, Nat.le_of_ble_eq_true rfl⟩) hP hD hS hA [1, 2, 3, 4, 5, 6, 7] rfl rfl (fun E9 ce9 q9 H locs he hP hD hS hce hcv hcl => ?_) (fun r9 H locs hw hP hD hS => ?_)
  · skip
    have hP : va_P G vwCl (([(yo, .inl (T 4, 1, .inr (.inl h0)))]) ++ (cA T na mo nm rs D mny nA rA) ++ (cN T (nA j) x2 x3 N f g)) H := hP
    have hD : va_D (va_A (([(yo, .inl (T 4, 1, .inr (.inl h0)))]) ++ (cA T na mo nm rs D mny nA rA) ++ (cN T (nA j) x2 x3 N f g)) s.heap.size) (([(yo, .inl (T 4, 1, .inr (.inl h0)))]) ++ (cA T na mo nm rs D mny nA rA) ++ (cN T (nA j) x2 x3 N f g)) := hD
    rcases he with ⟨hk9, rfl⟩ | ⟨hk9, rfl⟩ | ⟨hk9, rfl⟩
    · skip
      refine vx_catch (own := RL) (name := "java/lang/IndexOutOfBoundsException") hown [] ⟨0, 10, 13, 13⟩ [⟨0, 10, 17, 25⟩] (htab.trans rfl) (fun z hz => nomatch hz) rfl (by decide) (hts (.classLink RL 13 "java/lang/IndexOutOfBoundsException") (by decide +kernel)) (va_Nw.use rfl (hE.1 (.castable "java/lang/IndexOutOfBoundsException" "java/lang/IndexOutOfBoundsException") (by decide +kernel))) hce hcv hcl ?_
      refine lv_astore (lv' := [(4, .ref q9), (0, .ref na), (1, .int p0), (2, .int p1), (3, .ref yo)]) hx hb dL_decide_13 hl (by decide) rfl (fun ls hl => ?_)
      refine lv_iconst (v := 1) hx hb dL_decide_15 (by decide) ?_
      exact W.iret (v := 1) hx hb hr (fun t ht9 hW => ⟨⟨1, (), rfl, by rw [hk9]; rfl, gBi ht9 (gfin hP (rfl))⟩, hS.F ht9⟩) hS.2.2 dL_decide_16
    · skip
      exact absurd hk9 (by simp only [kDecide]; repeat (first | split | decide))
    · skip
      refine vx_catch (own := RL) (name := "java/lang/IllegalStateException") hown [⟨0, 10, 13, 13⟩] ⟨0, 10, 17, 25⟩ [] (htab.trans rfl) (fun z hz => by cases List.mem_singleton.mp hz; exact Or.inr ⟨by decide, "java/lang/IndexOutOfBoundsException", hts (.classLink RL 13 "java/lang/IndexOutOfBoundsException") (by decide +kernel), hE.2.1.2.1⟩) rfl (by decide) (hts (.classLink RL 25 "java/lang/IllegalStateException") (by decide +kernel)) (va_Nw.use rfl (hE.1 (.castable "java/lang/IllegalStateException" "java/lang/IllegalStateException") (by decide +kernel))) hce hcv hcl ?_
      refine lv_astore (lv' := [(4, .ref q9), (0, .ref na), (1, .int p0), (2, .int p1), (3, .ref yo)]) hx hb dL_decide_17 hl (by decide) rfl (fun ls hl => ?_)
      refine lv_iconst (v := 2) hx hb dL_decide_19 (by decide) ?_
      exact W.iret (v := 2) hx hb hr (fun t ht9 hW => ⟨⟨2, (), rfl, by rw [hk9]; rfl, gBi ht9 (gfin hP (rfl))⟩, hS.F ht9⟩) hS.2.2 dL_decide_20
  · skip
    have hP : va_P G vwCl (([(yo, .inl (T 4, 1, .inr (.inl h0)))]) ++ (cA T na mo nm rs D mny nA rA) ++ (cN T (nA j) x2 x3 (sThaw N p1 (D 3)) (sThawF N f) g)) H := hP
    have hD : va_D (va_A (([(yo, .inl (T 4, 1, .inr (.inl h0)))]) ++ (cA T na mo nm rs D mny nA rA) ++ (cN T (nA j) x2 x3 N f g)) s.heap.size) (([(yo, .inl (T 4, 1, .inr (.inl h0)))]) ++ (cA T na mo nm rs D mny nA rA) ++ (cN T (nA j) x2 x3 (sThaw N p1 (D 3)) (sThawF N f) g)) := hD
    exact absurd hw.1 hk
abbrev PL_lookUp_ok (G : va_G) (T : Nat → ClassId) (na mo nm rs : Nat) (D mny : Nat → Int32) (nA rA : Nat → Nat) (j x2 x3 : Nat) (N f g : Nat → Int32) (i y2 y3 y4 y5 : Nat) (rk rf rg rh : Nat → Int32) (p0 p1 : Int32) (yo : Nat) (h0 : Nat → Int64) (sz : Nat) : Array Value → State → Prop := gPc G T [.ref na, .int p0, .int p1, .ref yo] (([(yo, .inl (T 4, 1, .inr (.inl h0)))]) ++ (cA T na mo nm rs D mny nA rA) ++ (cN T (nA j) x2 x3 N f g) ++ (cR T (rA i) y2 y3 y4 y5 rk rf rg rh)) sz
abbrev QL_lookUp_ok (G : va_G) (T : Nat → ClassId) (na mo nm rs : Nat) (D mny : Nat → Int32) (nA rA : Nat → Nat) (j x2 x3 : Nat) (N f g : Nat → Int32) (i y2 y3 y4 y5 : Nat) (rk rf rg rh : Nat → Int32) (p0 p1 : Int32) (yo : Nat) (h0 : Nat → Int64) (sz : Nat) : Array Value → State → Outcome → State → Prop := va_Qi (fun (r : Int32) (_ : Unit) => r = 0) (gB G (([(yo, .inl (T 4, 1, .inr (.inl (vp_updL h0 0 ((sLook (sFresh rk rg rh j (D 3)) rf j (sAns N) j).toInt64)))))]) ++ (cA T na mo nm rs D mny nA rA) ++ (cN T (nA j) x2 x3 N f g) ++ (cR T (rA i) y2 y3 y4 y5 (sLook (sFresh rk rg rh j (D 3)) rk j 1) (sLook (sFresh rk rg rh j (D 3)) rf j (sAns N)) (sLook (sFresh rk rg rh j (D 3)) rg j (sLife N)) (sLook (sFresh rk rg rh j (D 3)) rh j (D 3))))) (va_A (([(yo, .inl (T 4, 1, .inr (.inl h0)))]) ++ (cA T na mo nm rs D mny nA rA) ++ (cN T (nA j) x2 x3 N f g) ++ (cR T (rA i) y2 y3 y4 y5 rk rf rg rh)) sz)
set_option maxHeartbeats 4000000 in
set_option maxRecDepth 100000 in
theorem kL_lookUp_ok (l : Launch) (hl0 : l.stackTraces = false) (G : va_G) (T : Nat → ClassId) (na mo nm rs : Nat) (D mny : Nat → Int32) (nA rA : Nat → Nat) (j x2 x3 : Nat) (N f g : Nat → Int32) (i y2 y3 y4 y5 : Nat) (rk rf rg rh : Nat → Int32) (p0 p1 : Int32) (yo : Nat) (h0 : Nat → Int64) (sz : Nat) (hr9 : okI p0 3 = true → p0 = nI i ∧ i < 3) (hj : okI p1 16 = true → p1 = nI j ∧ j < 16) (hk : (kRN p0 p1) = 0) : Met l yL_lookUp wsL_lookUp ({ frames := 8, cells := 2, slots := 12, locals := 125 } : Room) (PL_lookUp_ok G T na mo nm rs D mny nA rA j x2 x3 N f g i y2 y3 y4 y5 rk rf rg rh p0 p1 yo h0 sz) (QL_lookUp_ok G T na mo nm rs D mny nA rA j x2 x3 N f g i y2 y3 y4 y5 rk rf rg rh p0 p1 yo h0 sz) 2 12 (va_A (([(yo, .inl (T 4, 1, .inr (.inl h0)))]) ++ (cA T na mo nm rs D mny nA rA) ++ (cN T (nA j) x2 x3 N f g) ++ (cR T (rA i) y2 y3 y4 y5 rk rf rg rh)) sz) := by
  refine va_MetW (cc := cL_lookUp) (maxL := 5) (ret := (some .int)) (hh := [(0, 10, 13, 13)]) (by decide) rfl ?_
  intro p e s m args below meth c s₁ B hml hv
  obtain ⟨rfl, hsz, hP, hK, hD0, hE⟩ := hv
  have hx := B.exec
  have hb := B.bytes
  have hr := B.returns
  have hts := atoms_spec (ws := wsL_lookUp) B.pre
  have hown : s.vm.findClass RL = some m.cls := findClass_of_methodNamed B.named
  have hlocks := B.notSynchronized
  have htab : c.exceptionTable.toList = tableOf [(0, 10, 13, 13)] := vx_table (x := yL_lookUp) B (hts _ List.mem_cons_self)
  subst hsz
  have hD := hD0.self (sz := s.heap.size)
  have hA : ∀ q : Nat, s.heap.size ≤ q → (va_A (([(yo, .inl (T 4, 1, .inr (.inl h0)))]) ++ (cA T na mo nm rs D mny nA rA) ++ (cN T (nA j) x2 x3 N f g) ++ (cR T (rA i) y2 y3 y4 y5 rk rf rg rh)) s.heap.size) q := fun q h => Or.inr h
  have hS : va_S (va_A (([(yo, .inl (T 4, 1, .inr (.inl h0)))]) ++ (cA T na mo nm rs D mny nA rA) ++ (cN T (nA j) x2 x3 N f g) ++ (cR T (rA i) y2 y3 y4 y5 rk rf rg rh)) s.heap.size) s.heap s.heap [] := va_S.rf
  have hl := lv_entry ([.ref na, .int p0, .int p1, .ref yo]) (n := 5) (Nat.le_of_ble_eq_true rfl)
  rw [lg_entry_eq]
  generalize (lg_sl ([.ref na, .int p0, .int p1, .ref yo]) ++ List.replicate (5 - (lg_sl ([.ref na, .int p0, .int p1, .ref yo])).length) Slot.unset).toArray = ls at hl ⊢
  have hl : lv_has ls 5 [(0, .ref na), (1, .int p0), (2, .int p1), (3, .ref yo)] := hl
  have hP : va_P G vwCl (([(yo, .inl (T 4, 1, .inr (.inl h0)))]) ++ (cA T na mo nm rs D mny nA rA) ++ (cN T (nA j) x2 x3 N f g) ++ (cR T (rA i) y2 y3 y4 y5 rk rf rg rh)) s.heap := hP
  refine lv_aload_n hx hb dL_lookUp_0 rfl (lv_at hl 3 rfl) ?_
  refine lv_iconst (v := 0) hx hb dL_lookUp_1 (by decide) ?_
  refine lv_aload_n hx hb dL_lookUp_2 rfl (lv_at hl 0 rfl) ?_
  refine lv_iload_n hx hb dL_lookUp_3 rfl (lv_at hl 1 rfl) ?_
  refine lv_iload_n hx hb dL_lookUp_4 rfl (lv_at hl 2 rfl) ?_
  refine gxi (vx_runV (As := [.int p0, .int p1]) (rest := [.int 0, .ref yo]) ⟨hx, hb, hml, hown, hts⟩ (kX2_lookUp l hl0 G T na mo nm rs D mny nA rA j x2 x3 N f g i y2 y3 y4 y5 rk rf rg rh p0 p1 _ hr9 hj) (cwV 2 hts gL_lookUp_X2_lookUp rfl rfl rfl (by decide +kernel) ⟨Nat.le_of_ble_eq_true rfl, Nat.le_of_ble_eq_true rfl⟩) ⟨gblind, va_recv hK hP (ci := 2) (q0 := 1) rfl rfl, gpre hE hK hP hD hS hA [1, 2, 3, 4, 5, 6, 7, 8, 9, 10, 11, 12] rfl rfl⟩ rfl rfl hl.1 rfl (lv_room (Nat.le_of_ble_eq_true rfl)) dL_lookUp_5 ⟨Nat.le_of_ble_eq_true rfl, Nat.le_of_ble_eq_true rfl⟩) hP hD hS hA [1, 2, 3, 4, 5, 6, 7, 8, 9, 10, 11, 12] rfl rfl (fun E9 ce9 q9 H locs he hP hD hS hce hcv hcl => ?_) (fun r9 H locs hw hP hD hS => ?_)
  · skip
    have hP : va_P G vwCl (([(yo, .inl (T 4, 1, .inr (.inl h0)))]) ++ (cA T na mo nm rs D mny nA rA) ++ (cN T (nA j) x2 x3 N f g) ++ (cR T (rA i) y2 y3 y4 y5 rk rf rg rh)) H := hP
    have hD : va_D (va_A (([(yo, .inl (T 4, 1, .inr (.inl h0)))]) ++ (cA T na mo nm rs D mny nA rA) ++ (cN T (nA j) x2 x3 N f g) ++ (cR T (rA i) y2 y3 y4 y5 rk rf rg rh)) s.heap.size) (([(yo, .inl (T 4, 1, .inr (.inl h0)))]) ++ (cA T na mo nm rs D mny nA rA) ++ (cN T (nA j) x2 x3 N f g) ++ (cR T (rA i) y2 y3 y4 y5 rk rf rg rh)) := hD
    rcases he with ⟨hk9, rfl⟩ | ⟨hk9, rfl⟩ | ⟨hk9, rfl⟩
    · skip
      exact absurd (hk.symm.trans hk9) (by decide)
    · skip
      exact absurd (hk.symm.trans hk9) (by decide)
    · skip
      exact absurd (hk.symm.trans hk9) (by decide)
  · skip
    have hP : va_P G vwCl (([(yo, .inl (T 4, 1, .inr (.inl h0)))]) ++ (cA T na mo nm rs D mny nA rA) ++ (cN T (nA j) x2 x3 N f g) ++ (cR T (rA i) y2 y3 y4 y5 (sLook (sFresh rk rg rh j (D 3)) rk j 1) (sLook (sFresh rk rg rh j (D 3)) rf j (sAns N)) (sLook (sFresh rk rg rh j (D 3)) rg j (sLife N)) (sLook (sFresh rk rg rh j (D 3)) rh j (D 3)))) H := hP
    have hD : va_D (va_A (([(yo, .inl (T 4, 1, .inr (.inl h0)))]) ++ (cA T na mo nm rs D mny nA rA) ++ (cN T (nA j) x2 x3 N f g) ++ (cR T (rA i) y2 y3 y4 y5 rk rf rg rh)) s.heap.size) (([(yo, .inl (T 4, 1, .inr (.inl h0)))]) ++ (cA T na mo nm rs D mny nA rA) ++ (cN T (nA j) x2 x3 N f g) ++ (cR T (rA i) y2 y3 y4 y5 (sLook (sFresh rk rg rh j (D 3)) rk j 1) (sLook (sFresh rk rg rh j (D 3)) rf j (sAns N)) (sLook (sFresh rk rg rh j (D 3)) rg j (sLife N)) (sLook (sFresh rk rg rh j (D 3)) rh j (D 3)))) := hD
    obtain ⟨hok5, hw⟩ := hw
    subst hw
    refine lv_i2l (v := (sLook (sFresh rk rg rh j (D 3)) rf j (sAns N) j).toInt64) hx hb dL_lookUp_8 rfl ?_
    refine glast (j := 0) hx hb hK hP hD hS 0 4 rfl rfl (show (0 : Int32) = nI 0 from rfl) (by omega) (by decide) dL_lookUp_9 (fun H locs hP hD hS => ?_)
    have hP : va_P G vwCl (([(yo, .inl (T 4, 1, .inr (.inl (vp_updL h0 0 ((sLook (sFresh rk rg rh j (D 3)) rf j (sAns N) j).toInt64)))))]) ++ (cA T na mo nm rs D mny nA rA) ++ (cN T (nA j) x2 x3 N f g) ++ (cR T (rA i) y2 y3 y4 y5 (sLook (sFresh rk rg rh j (D 3)) rk j 1) (sLook (sFresh rk rg rh j (D 3)) rf j (sAns N)) (sLook (sFresh rk rg rh j (D 3)) rg j (sLife N)) (sLook (sFresh rk rg rh j (D 3)) rh j (D 3)))) H := hP
    have hD : va_D (va_A (([(yo, .inl (T 4, 1, .inr (.inl h0)))]) ++ (cA T na mo nm rs D mny nA rA) ++ (cN T (nA j) x2 x3 N f g) ++ (cR T (rA i) y2 y3 y4 y5 rk rf rg rh)) s.heap.size) (([(yo, .inl (T 4, 1, .inr (.inl (vp_updL h0 0 ((sLook (sFresh rk rg rh j (D 3)) rf j (sAns N) j).toInt64)))))]) ++ (cA T na mo nm rs D mny nA rA) ++ (cN T (nA j) x2 x3 N f g) ++ (cR T (rA i) y2 y3 y4 y5 (sLook (sFresh rk rg rh j (D 3)) rk j 1) (sLook (sFresh rk rg rh j (D 3)) rf j (sAns N)) (sLook (sFresh rk rg rh j (D 3)) rg j (sLife N)) (sLook (sFresh rk rg rh j (D 3)) rh j (D 3)))) := hD
    refine lv_goto (tgt := 17) hx hb dL_lookUp_10 (by decide) ?_
    refine lv_iconst (v := 0) hx hb dL_lookUp_17 (by decide) ?_
    exact W.iret (v := 0) hx hb hr (fun t ht9 hW => ⟨⟨0, (), rfl, rfl, gBi ht9 (gfin hP (rfl))⟩, hS.F ht9⟩) hS.2.2 dL_lookUp_18
abbrev PL_lookUp_no (G : va_G) (T : Nat → ClassId) (na mo nm rs : Nat) (D mny : Nat → Int32) (nA rA : Nat → Nat) (j x2 x3 : Nat) (N f g : Nat → Int32) (i y2 y3 y4 y5 : Nat) (rk rf rg rh : Nat → Int32) (p0 p1 : Int32) (yo : Nat) (h0 : Nat → Int64) (sz : Nat) : Array Value → State → Prop := gPc G T [.ref na, .int p0, .int p1, .ref yo] (([(yo, .inl (T 4, 1, .inr (.inl h0)))]) ++ (cA T na mo nm rs D mny nA rA) ++ (cN T (nA j) x2 x3 N f g) ++ (cR T (rA i) y2 y3 y4 y5 rk rf rg rh)) sz
abbrev QL_lookUp_no (G : va_G) (T : Nat → ClassId) (na mo nm rs : Nat) (D mny : Nat → Int32) (nA rA : Nat → Nat) (j x2 x3 : Nat) (N f g : Nat → Int32) (i y2 y3 y4 y5 : Nat) (rk rf rg rh : Nat → Int32) (p0 p1 : Int32) (yo : Nat) (h0 : Nat → Int64) (sz : Nat) : Array Value → State → Outcome → State → Prop := va_Qi (fun (r : Int32) (_ : Unit) => r = w3 (kRN p0 p1)) (gB G (([(yo, .inl (T 4, 1, .inr (.inl h0)))]) ++ (cA T na mo nm rs D mny nA rA) ++ (cN T (nA j) x2 x3 N f g) ++ (cR T (rA i) y2 y3 y4 y5 rk rf rg rh))) (va_A (([(yo, .inl (T 4, 1, .inr (.inl h0)))]) ++ (cA T na mo nm rs D mny nA rA) ++ (cN T (nA j) x2 x3 N f g) ++ (cR T (rA i) y2 y3 y4 y5 rk rf rg rh)) sz)
set_option maxHeartbeats 4000000 in
set_option maxRecDepth 100000 in
theorem kL_lookUp_no (l : Launch) (hl0 : l.stackTraces = false) (G : va_G) (T : Nat → ClassId) (na mo nm rs : Nat) (D mny : Nat → Int32) (nA rA : Nat → Nat) (j x2 x3 : Nat) (N f g : Nat → Int32) (i y2 y3 y4 y5 : Nat) (rk rf rg rh : Nat → Int32) (p0 p1 : Int32) (yo : Nat) (h0 : Nat → Int64) (sz : Nat) (hr9 : okI p0 3 = true → p0 = nI i ∧ i < 3) (hj : okI p1 16 = true → p1 = nI j ∧ j < 16) (hk : ¬ (kRN p0 p1) = 0) : Met l yL_lookUp wsL_lookUp ({ frames := 8, cells := 2, slots := 12, locals := 125 } : Room) (PL_lookUp_no G T na mo nm rs D mny nA rA j x2 x3 N f g i y2 y3 y4 y5 rk rf rg rh p0 p1 yo h0 sz) (QL_lookUp_no G T na mo nm rs D mny nA rA j x2 x3 N f g i y2 y3 y4 y5 rk rf rg rh p0 p1 yo h0 sz) 2 12 (va_A (([(yo, .inl (T 4, 1, .inr (.inl h0)))]) ++ (cA T na mo nm rs D mny nA rA) ++ (cN T (nA j) x2 x3 N f g) ++ (cR T (rA i) y2 y3 y4 y5 rk rf rg rh)) sz) := by
  refine va_MetW (cc := cL_lookUp) (maxL := 5) (ret := (some .int)) (hh := [(0, 10, 13, 13)]) (by decide) rfl ?_
  intro p e s m args below meth c s₁ B hml hv
  obtain ⟨rfl, hsz, hP, hK, hD0, hE⟩ := hv
  have hx := B.exec
  have hb := B.bytes
  have hr := B.returns
  have hts := atoms_spec (ws := wsL_lookUp) B.pre
  have hown : s.vm.findClass RL = some m.cls := findClass_of_methodNamed B.named
  have hlocks := B.notSynchronized
  have htab : c.exceptionTable.toList = tableOf [(0, 10, 13, 13)] := vx_table (x := yL_lookUp) B (hts _ List.mem_cons_self)
  subst hsz
  have hD := hD0.self (sz := s.heap.size)
  have hA : ∀ q : Nat, s.heap.size ≤ q → (va_A (([(yo, .inl (T 4, 1, .inr (.inl h0)))]) ++ (cA T na mo nm rs D mny nA rA) ++ (cN T (nA j) x2 x3 N f g) ++ (cR T (rA i) y2 y3 y4 y5 rk rf rg rh)) s.heap.size) q := fun q h => Or.inr h
  have hS : va_S (va_A (([(yo, .inl (T 4, 1, .inr (.inl h0)))]) ++ (cA T na mo nm rs D mny nA rA) ++ (cN T (nA j) x2 x3 N f g) ++ (cR T (rA i) y2 y3 y4 y5 rk rf rg rh)) s.heap.size) s.heap s.heap [] := va_S.rf
  have hl := lv_entry ([.ref na, .int p0, .int p1, .ref yo]) (n := 5) (Nat.le_of_ble_eq_true rfl)
  rw [lg_entry_eq]
  generalize (lg_sl ([.ref na, .int p0, .int p1, .ref yo]) ++ List.replicate (5 - (lg_sl ([.ref na, .int p0, .int p1, .ref yo])).length) Slot.unset).toArray = ls at hl ⊢
  have hl : lv_has ls 5 [(0, .ref na), (1, .int p0), (2, .int p1), (3, .ref yo)] := hl
  have hP : va_P G vwCl (([(yo, .inl (T 4, 1, .inr (.inl h0)))]) ++ (cA T na mo nm rs D mny nA rA) ++ (cN T (nA j) x2 x3 N f g) ++ (cR T (rA i) y2 y3 y4 y5 rk rf rg rh)) s.heap := hP
  refine lv_aload_n hx hb dL_lookUp_0 rfl (lv_at hl 3 rfl) ?_
  refine lv_iconst (v := 0) hx hb dL_lookUp_1 (by decide) ?_
  refine lv_aload_n hx hb dL_lookUp_2 rfl (lv_at hl 0 rfl) ?_
  refine lv_iload_n hx hb dL_lookUp_3 rfl (lv_at hl 1 rfl) ?_
  refine lv_iload_n hx hb dL_lookUp_4 rfl (lv_at hl 2 rfl) ?_
  refine gxi (vx_runV (As := [.int p0, .int p1]) (rest := [.int 0, .ref yo]) ⟨hx, hb, hml, hown, hts⟩ (kX2_lookUp l hl0 G T na mo nm rs D mny nA rA j x2 x3 N f g i y2 y3 y4 y5 rk rf rg rh p0 p1 _ hr9 hj) (cwV 2 hts gL_lookUp_X2_lookUp rfl rfl rfl (by decide +kernel) ⟨Nat.le_of_ble_eq_true rfl, Nat.le_of_ble_eq_true rfl⟩) ⟨gblind, va_recv hK hP (ci := 2) (q0 := 1) rfl rfl, gpre hE hK hP hD hS hA [1, 2, 3, 4, 5, 6, 7, 8, 9, 10, 11, 12] rfl rfl⟩ rfl rfl hl.1 rfl (lv_room (Nat.le_of_ble_eq_true rfl)) dL_lookUp_5 ⟨Nat.le_of_ble_eq_true rfl, Nat.le_of_ble_eq_true rfl⟩) hP hD hS hA [1, 2, 3, 4, 5, 6, 7, 8, 9, 10, 11, 12] rfl rfl (fun E9 ce9 q9 H locs he hP hD hS hce hcv hcl => ?_) (fun r9 H locs hw hP hD hS => ?_)
  · skip
    have hP : va_P G vwCl (([(yo, .inl (T 4, 1, .inr (.inl h0)))]) ++ (cA T na mo nm rs D mny nA rA) ++ (cN T (nA j) x2 x3 N f g) ++ (cR T (rA i) y2 y3 y4 y5 rk rf rg rh)) H := hP
    have hD : va_D (va_A (([(yo, .inl (T 4, 1, .inr (.inl h0)))]) ++ (cA T na mo nm rs D mny nA rA) ++ (cN T (nA j) x2 x3 N f g) ++ (cR T (rA i) y2 y3 y4 y5 rk rf rg rh)) s.heap.size) (([(yo, .inl (T 4, 1, .inr (.inl h0)))]) ++ (cA T na mo nm rs D mny nA rA) ++ (cN T (nA j) x2 x3 N f g) ++ (cR T (rA i) y2 y3 y4 y5 rk rf rg rh)) := hD
    rcases he with ⟨hk9, rfl⟩ | ⟨hk9, rfl⟩ | ⟨hk9, rfl⟩
    · skip
      refine vx_catch (own := RL) (name := "java/lang/IndexOutOfBoundsException") hown [] ⟨0, 10, 13, 13⟩ [] (htab.trans rfl) (fun z hz => nomatch hz) rfl (by decide) (hts (.classLink RL 13 "java/lang/IndexOutOfBoundsException") (by decide +kernel)) (va_Nw.use rfl (hE.1 (.castable "java/lang/IndexOutOfBoundsException" "java/lang/IndexOutOfBoundsException") (by decide +kernel))) hce hcv hcl ?_
      refine lv_astore (lv' := [(4, .ref q9), (0, .ref na), (1, .int p0), (2, .int p1), (3, .ref yo)]) hx hb dL_lookUp_13 hl (by decide) rfl (fun ls hl => ?_)
      refine lv_iconst (v := 1) hx hb dL_lookUp_15 (by decide) ?_
      exact W.iret (v := 1) hx hb hr (fun t ht9 hW => ⟨⟨1, (), rfl, by rw [hk9]; rfl, gBi ht9 (gfin hP (rfl))⟩, hS.F ht9⟩) hS.2.2 dL_lookUp_16
    · skip
      exact absurd hk9 (by simp only [kRN]; repeat (first | split | decide))
    · skip
      exact absurd hk9 (by simp only [kRN]; repeat (first | split | decide))
  · skip
    have hP : va_P G vwCl (([(yo, .inl (T 4, 1, .inr (.inl h0)))]) ++ (cA T na mo nm rs D mny nA rA) ++ (cN T (nA j) x2 x3 N f g) ++ (cR T (rA i) y2 y3 y4 y5 (sLook (sFresh rk rg rh j (D 3)) rk j 1) (sLook (sFresh rk rg rh j (D 3)) rf j (sAns N)) (sLook (sFresh rk rg rh j (D 3)) rg j (sLife N)) (sLook (sFresh rk rg rh j (D 3)) rh j (D 3)))) H := hP
    have hD : va_D (va_A (([(yo, .inl (T 4, 1, .inr (.inl h0)))]) ++ (cA T na mo nm rs D mny nA rA) ++ (cN T (nA j) x2 x3 N f g) ++ (cR T (rA i) y2 y3 y4 y5 rk rf rg rh)) s.heap.size) (([(yo, .inl (T 4, 1, .inr (.inl h0)))]) ++ (cA T na mo nm rs D mny nA rA) ++ (cN T (nA j) x2 x3 N f g) ++ (cR T (rA i) y2 y3 y4 y5 (sLook (sFresh rk rg rh j (D 3)) rk j 1) (sLook (sFresh rk rg rh j (D 3)) rf j (sAns N)) (sLook (sFresh rk rg rh j (D 3)) rg j (sLife N)) (sLook (sFresh rk rg rh j (D 3)) rh j (D 3)))) := hD
    exact absurd hw.1 hk
abbrev PL_isStale_ok (G : va_G) (T : Nat → ClassId) (na mo nm rs : Nat) (D mny : Nat → Int32) (nA rA : Nat → Nat) (j x2 x3 : Nat) (N f g : Nat → Int32) (i y2 y3 y4 y5 : Nat) (rk rf rg rh : Nat → Int32) (p0 p1 : Int32) (yo : Nat) (h0 : Nat → Int64) (sz : Nat) : Array Value → State → Prop := gPc G T [.ref na, .int p0, .int p1, .ref yo] (([(yo, .inl (T 4, 1, .inr (.inl h0)))]) ++ (cA T na mo nm rs D mny nA rA) ++ (cN T (nA j) x2 x3 N f g) ++ (cR T (rA i) y2 y3 y4 y5 rk rf rg rh)) sz
abbrev QL_isStale_ok (G : va_G) (T : Nat → ClassId) (na mo nm rs : Nat) (D mny : Nat → Int32) (nA rA : Nat → Nat) (j x2 x3 : Nat) (N f g : Nat → Int32) (i y2 y3 y4 y5 : Nat) (rk rf rg rh : Nat → Int32) (p0 p1 : Int32) (yo : Nat) (h0 : Nat → Int64) (sz : Nat) : Array Value → State → Outcome → State → Prop := va_Qi (fun (r : Int32) (_ : Unit) => r = 0) (gB G (([(yo, .inl (T 4, 1, .inr (.inl (vp_updL h0 0 (if sStale (sFresh rk rg rh j (D 3)) (rf j) (sAns N) = 0 then 0 else 1)))))]) ++ (cA T na mo nm rs D mny nA rA) ++ (cN T (nA j) x2 x3 N f g) ++ (cR T (rA i) y2 y3 y4 y5 rk rf rg rh))) (va_A (([(yo, .inl (T 4, 1, .inr (.inl h0)))]) ++ (cA T na mo nm rs D mny nA rA) ++ (cN T (nA j) x2 x3 N f g) ++ (cR T (rA i) y2 y3 y4 y5 rk rf rg rh)) sz)
set_option maxHeartbeats 4000000 in
set_option maxRecDepth 100000 in
theorem kL_isStale_ok (l : Launch) (hl0 : l.stackTraces = false) (G : va_G) (T : Nat → ClassId) (na mo nm rs : Nat) (D mny : Nat → Int32) (nA rA : Nat → Nat) (j x2 x3 : Nat) (N f g : Nat → Int32) (i y2 y3 y4 y5 : Nat) (rk rf rg rh : Nat → Int32) (p0 p1 : Int32) (yo : Nat) (h0 : Nat → Int64) (sz : Nat) (hr9 : okI p0 3 = true → p0 = nI i ∧ i < 3) (hj : okI p1 16 = true → p1 = nI j ∧ j < 16) (hk : (kRN p0 p1) = 0) : Met l yL_isStale wsL_isStale ({ frames := 8, cells := 2, slots := 12, locals := 125 } : Room) (PL_isStale_ok G T na mo nm rs D mny nA rA j x2 x3 N f g i y2 y3 y4 y5 rk rf rg rh p0 p1 yo h0 sz) (QL_isStale_ok G T na mo nm rs D mny nA rA j x2 x3 N f g i y2 y3 y4 y5 rk rf rg rh p0 p1 yo h0 sz) 2 12 (va_A (([(yo, .inl (T 4, 1, .inr (.inl h0)))]) ++ (cA T na mo nm rs D mny nA rA) ++ (cN T (nA j) x2 x3 N f g) ++ (cR T (rA i) y2 y3 y4 y5 rk rf rg rh)) sz) := by
  refine va_MetW (cc := cL_isStale) (maxL := 5) (ret := (some .int)) (hh := [(0, 17, 20, 13)]) (by decide) rfl ?_
  intro p e s m args below meth c s₁ B hml hv
  obtain ⟨rfl, hsz, hP, hK, hD0, hE⟩ := hv
  have hx := B.exec
  have hb := B.bytes
  have hr := B.returns
  have hts := atoms_spec (ws := wsL_isStale) B.pre
  have hown : s.vm.findClass RL = some m.cls := findClass_of_methodNamed B.named
  have hlocks := B.notSynchronized
  have htab : c.exceptionTable.toList = tableOf [(0, 17, 20, 13)] := vx_table (x := yL_isStale) B (hts _ List.mem_cons_self)
  subst hsz
  have hD := hD0.self (sz := s.heap.size)
  have hA : ∀ q : Nat, s.heap.size ≤ q → (va_A (([(yo, .inl (T 4, 1, .inr (.inl h0)))]) ++ (cA T na mo nm rs D mny nA rA) ++ (cN T (nA j) x2 x3 N f g) ++ (cR T (rA i) y2 y3 y4 y5 rk rf rg rh)) s.heap.size) q := fun q h => Or.inr h
  have hS : va_S (va_A (([(yo, .inl (T 4, 1, .inr (.inl h0)))]) ++ (cA T na mo nm rs D mny nA rA) ++ (cN T (nA j) x2 x3 N f g) ++ (cR T (rA i) y2 y3 y4 y5 rk rf rg rh)) s.heap.size) s.heap s.heap [] := va_S.rf
  have hl := lv_entry ([.ref na, .int p0, .int p1, .ref yo]) (n := 5) (Nat.le_of_ble_eq_true rfl)
  rw [lg_entry_eq]
  generalize (lg_sl ([.ref na, .int p0, .int p1, .ref yo]) ++ List.replicate (5 - (lg_sl ([.ref na, .int p0, .int p1, .ref yo])).length) Slot.unset).toArray = ls at hl ⊢
  have hl : lv_has ls 5 [(0, .ref na), (1, .int p0), (2, .int p1), (3, .ref yo)] := hl
  have hP : va_P G vwCl (([(yo, .inl (T 4, 1, .inr (.inl h0)))]) ++ (cA T na mo nm rs D mny nA rA) ++ (cN T (nA j) x2 x3 N f g) ++ (cR T (rA i) y2 y3 y4 y5 rk rf rg rh)) s.heap := hP
  refine lv_aload_n hx hb dL_isStale_0 rfl (lv_at hl 3 rfl) ?_
  refine lv_iconst (v := 0) hx hb dL_isStale_1 (by decide) ?_
  refine lv_aload_n hx hb dL_isStale_2 rfl (lv_at hl 0 rfl) ?_
  refine lv_iload_n hx hb dL_isStale_3 rfl (lv_at hl 1 rfl) ?_
  refine lv_iload_n hx hb dL_isStale_4 rfl (lv_at hl 2 rfl) ?_
  refine gxi (vx_runV (As := [.int p0, .int p1]) (rest := [.int 0, .ref yo]) ⟨hx, hb, hml, hown, hts⟩ (kX2_isStale l hl0 G T na mo nm rs D mny nA rA j x2 x3 N f g i y2 y3 y4 y5 rk rf rg rh p0 p1 _ hr9 hj) (cwV 2 hts gL_isStale_X2_isStale rfl rfl rfl (by decide +kernel) ⟨Nat.le_of_ble_eq_true rfl, Nat.le_of_ble_eq_true rfl⟩) ⟨gblind, va_recv hK hP (ci := 2) (q0 := 1) rfl rfl, gpre hE hK hP hD hS hA [1, 2, 3, 4, 5, 6, 7, 8, 9, 10, 11, 12] rfl rfl⟩ rfl rfl hl.1 rfl (lv_room (Nat.le_of_ble_eq_true rfl)) dL_isStale_5 ⟨Nat.le_of_ble_eq_true rfl, Nat.le_of_ble_eq_true rfl⟩) hP hD hS hA [1, 2, 3, 4, 5, 6, 7, 8, 9, 10, 11, 12] rfl rfl (fun E9 ce9 q9 H locs he hP hD hS hce hcv hcl => ?_) (fun r9 H locs hw hP hD hS => ?_)
  · skip
    have hP : va_P G vwCl (([(yo, .inl (T 4, 1, .inr (.inl h0)))]) ++ (cA T na mo nm rs D mny nA rA) ++ (cN T (nA j) x2 x3 N f g) ++ (cR T (rA i) y2 y3 y4 y5 rk rf rg rh)) H := hP
    have hD : va_D (va_A (([(yo, .inl (T 4, 1, .inr (.inl h0)))]) ++ (cA T na mo nm rs D mny nA rA) ++ (cN T (nA j) x2 x3 N f g) ++ (cR T (rA i) y2 y3 y4 y5 rk rf rg rh)) s.heap.size) (([(yo, .inl (T 4, 1, .inr (.inl h0)))]) ++ (cA T na mo nm rs D mny nA rA) ++ (cN T (nA j) x2 x3 N f g) ++ (cR T (rA i) y2 y3 y4 y5 rk rf rg rh)) := hD
    rcases he with ⟨hk9, rfl⟩ | ⟨hk9, rfl⟩ | ⟨hk9, rfl⟩
    · skip
      exact absurd (hk.symm.trans hk9) (by decide)
    · skip
      exact absurd (hk.symm.trans hk9) (by decide)
    · skip
      exact absurd (hk.symm.trans hk9) (by decide)
  · skip
    have hP : va_P G vwCl (([(yo, .inl (T 4, 1, .inr (.inl h0)))]) ++ (cA T na mo nm rs D mny nA rA) ++ (cN T (nA j) x2 x3 N f g) ++ (cR T (rA i) y2 y3 y4 y5 rk rf rg rh)) H := hP
    have hD : va_D (va_A (([(yo, .inl (T 4, 1, .inr (.inl h0)))]) ++ (cA T na mo nm rs D mny nA rA) ++ (cN T (nA j) x2 x3 N f g) ++ (cR T (rA i) y2 y3 y4 y5 rk rf rg rh)) s.heap.size) (([(yo, .inl (T 4, 1, .inr (.inl h0)))]) ++ (cA T na mo nm rs D mny nA rA) ++ (cN T (nA j) x2 x3 N f g) ++ (cR T (rA i) y2 y3 y4 y5 rk rf rg rh)) := hD
    obtain ⟨hok5, hw⟩ := hw
    subst hw
    refine lv_if_eq (tgt := 15) hx hb dL_isStale_8 (by decide) (fun c8 => ?_) (fun c8 => ?_)
    · skip
      refine lv_lconst (v := 0) hx hb dL_isStale_15 (by decide) ?_
      refine glast (j := 0) hx hb hK hP hD hS 0 4 rfl rfl (show (0 : Int32) = nI 0 from rfl) (by omega) (by decide) dL_isStale_16 (fun H locs hP hD hS => ?_)
      have hP : va_P G vwCl (([(yo, .inl (T 4, 1, .inr (.inl (vp_updL h0 0 0))))]) ++ (cA T na mo nm rs D mny nA rA) ++ (cN T (nA j) x2 x3 N f g) ++ (cR T (rA i) y2 y3 y4 y5 rk rf rg rh)) H := hP
      have hD : va_D (va_A (([(yo, .inl (T 4, 1, .inr (.inl h0)))]) ++ (cA T na mo nm rs D mny nA rA) ++ (cN T (nA j) x2 x3 N f g) ++ (cR T (rA i) y2 y3 y4 y5 rk rf rg rh)) s.heap.size) (([(yo, .inl (T 4, 1, .inr (.inl (vp_updL h0 0 0))))]) ++ (cA T na mo nm rs D mny nA rA) ++ (cN T (nA j) x2 x3 N f g) ++ (cR T (rA i) y2 y3 y4 y5 rk rf rg rh)) := hD
      refine lv_goto (tgt := 24) hx hb dL_isStale_17 (by decide) ?_
      refine lv_iconst (v := 0) hx hb dL_isStale_24 (by decide) ?_
      exact W.iret (v := 0) hx hb hr (fun t ht9 hW => ⟨⟨0, (), rfl, rfl, gBi ht9 (gfin hP (by simp only [c8, hok5, if_true, if_false]))⟩, hS.F ht9⟩) hS.2.2 dL_isStale_25
    · skip
      refine lv_lconst (v := 1) hx hb dL_isStale_11 (by decide) ?_
      refine lv_goto (tgt := 16) hx hb dL_isStale_12 (by decide) ?_
      refine glast (j := 0) hx hb hK hP hD hS 0 4 rfl rfl (show (0 : Int32) = nI 0 from rfl) (by omega) (by decide) dL_isStale_16 (fun H locs hP hD hS => ?_)
      have hP : va_P G vwCl (([(yo, .inl (T 4, 1, .inr (.inl (vp_updL h0 0 1))))]) ++ (cA T na mo nm rs D mny nA rA) ++ (cN T (nA j) x2 x3 N f g) ++ (cR T (rA i) y2 y3 y4 y5 rk rf rg rh)) H := hP
      have hD : va_D (va_A (([(yo, .inl (T 4, 1, .inr (.inl h0)))]) ++ (cA T na mo nm rs D mny nA rA) ++ (cN T (nA j) x2 x3 N f g) ++ (cR T (rA i) y2 y3 y4 y5 rk rf rg rh)) s.heap.size) (([(yo, .inl (T 4, 1, .inr (.inl (vp_updL h0 0 1))))]) ++ (cA T na mo nm rs D mny nA rA) ++ (cN T (nA j) x2 x3 N f g) ++ (cR T (rA i) y2 y3 y4 y5 rk rf rg rh)) := hD
      refine lv_goto (tgt := 24) hx hb dL_isStale_17 (by decide) ?_
      refine lv_iconst (v := 0) hx hb dL_isStale_24 (by decide) ?_
      exact W.iret (v := 0) hx hb hr (fun t ht9 hW => ⟨⟨0, (), rfl, rfl, gBi ht9 (gfin hP (by simp only [c8, hok5, if_true, if_false]))⟩, hS.F ht9⟩) hS.2.2 dL_isStale_25
abbrev PL_isStale_no (G : va_G) (T : Nat → ClassId) (na mo nm rs : Nat) (D mny : Nat → Int32) (nA rA : Nat → Nat) (j x2 x3 : Nat) (N f g : Nat → Int32) (i y2 y3 y4 y5 : Nat) (rk rf rg rh : Nat → Int32) (p0 p1 : Int32) (yo : Nat) (h0 : Nat → Int64) (sz : Nat) : Array Value → State → Prop := gPc G T [.ref na, .int p0, .int p1, .ref yo] (([(yo, .inl (T 4, 1, .inr (.inl h0)))]) ++ (cA T na mo nm rs D mny nA rA) ++ (cN T (nA j) x2 x3 N f g) ++ (cR T (rA i) y2 y3 y4 y5 rk rf rg rh)) sz
abbrev QL_isStale_no (G : va_G) (T : Nat → ClassId) (na mo nm rs : Nat) (D mny : Nat → Int32) (nA rA : Nat → Nat) (j x2 x3 : Nat) (N f g : Nat → Int32) (i y2 y3 y4 y5 : Nat) (rk rf rg rh : Nat → Int32) (p0 p1 : Int32) (yo : Nat) (h0 : Nat → Int64) (sz : Nat) : Array Value → State → Outcome → State → Prop := va_Qi (fun (r : Int32) (_ : Unit) => r = w3 (kRN p0 p1)) (gB G (([(yo, .inl (T 4, 1, .inr (.inl h0)))]) ++ (cA T na mo nm rs D mny nA rA) ++ (cN T (nA j) x2 x3 N f g) ++ (cR T (rA i) y2 y3 y4 y5 rk rf rg rh))) (va_A (([(yo, .inl (T 4, 1, .inr (.inl h0)))]) ++ (cA T na mo nm rs D mny nA rA) ++ (cN T (nA j) x2 x3 N f g) ++ (cR T (rA i) y2 y3 y4 y5 rk rf rg rh)) sz)
set_option maxHeartbeats 4000000 in
set_option maxRecDepth 100000 in
theorem kL_isStale_no (l : Launch) (hl0 : l.stackTraces = false) (G : va_G) (T : Nat → ClassId) (na mo nm rs : Nat) (D mny : Nat → Int32) (nA rA : Nat → Nat) (j x2 x3 : Nat) (N f g : Nat → Int32) (i y2 y3 y4 y5 : Nat) (rk rf rg rh : Nat → Int32) (p0 p1 : Int32) (yo : Nat) (h0 : Nat → Int64) (sz : Nat) (hr9 : okI p0 3 = true → p0 = nI i ∧ i < 3) (hj : okI p1 16 = true → p1 = nI j ∧ j < 16) (hk : ¬ (kRN p0 p1) = 0) : Met l yL_isStale wsL_isStale ({ frames := 8, cells := 2, slots := 12, locals := 125 } : Room) (PL_isStale_no G T na mo nm rs D mny nA rA j x2 x3 N f g i y2 y3 y4 y5 rk rf rg rh p0 p1 yo h0 sz) (QL_isStale_no G T na mo nm rs D mny nA rA j x2 x3 N f g i y2 y3 y4 y5 rk rf rg rh p0 p1 yo h0 sz) 2 12 (va_A (([(yo, .inl (T 4, 1, .inr (.inl h0)))]) ++ (cA T na mo nm rs D mny nA rA) ++ (cN T (nA j) x2 x3 N f g) ++ (cR T (rA i) y2 y3 y4 y5 rk rf rg rh)) sz) := by
  refine va_MetW (cc := cL_isStale) (maxL := 5) (ret := (some .int)) (hh := [(0, 17, 20, 13)]) (by decide) rfl ?_
  intro p e s m args below meth c s₁ B hml hv
  obtain ⟨rfl, hsz, hP, hK, hD0, hE⟩ := hv
  have hx := B.exec
  have hb := B.bytes
  have hr := B.returns
  have hts := atoms_spec (ws := wsL_isStale) B.pre
  have hown : s.vm.findClass RL = some m.cls := findClass_of_methodNamed B.named
  have hlocks := B.notSynchronized
  have htab : c.exceptionTable.toList = tableOf [(0, 17, 20, 13)] := vx_table (x := yL_isStale) B (hts _ List.mem_cons_self)
  subst hsz
  have hD := hD0.self (sz := s.heap.size)
  have hA : ∀ q : Nat, s.heap.size ≤ q → (va_A (([(yo, .inl (T 4, 1, .inr (.inl h0)))]) ++ (cA T na mo nm rs D mny nA rA) ++ (cN T (nA j) x2 x3 N f g) ++ (cR T (rA i) y2 y3 y4 y5 rk rf rg rh)) s.heap.size) q := fun q h => Or.inr h
  have hS : va_S (va_A (([(yo, .inl (T 4, 1, .inr (.inl h0)))]) ++ (cA T na mo nm rs D mny nA rA) ++ (cN T (nA j) x2 x3 N f g) ++ (cR T (rA i) y2 y3 y4 y5 rk rf rg rh)) s.heap.size) s.heap s.heap [] := va_S.rf
  have hl := lv_entry ([.ref na, .int p0, .int p1, .ref yo]) (n := 5) (Nat.le_of_ble_eq_true rfl)
  rw [lg_entry_eq]
  generalize (lg_sl ([.ref na, .int p0, .int p1, .ref yo]) ++ List.replicate (5 - (lg_sl ([.ref na, .int p0, .int p1, .ref yo])).length) Slot.unset).toArray = ls at hl ⊢
  have hl : lv_has ls 5 [(0, .ref na), (1, .int p0), (2, .int p1), (3, .ref yo)] := hl
  have hP : va_P G vwCl (([(yo, .inl (T 4, 1, .inr (.inl h0)))]) ++ (cA T na mo nm rs D mny nA rA) ++ (cN T (nA j) x2 x3 N f g) ++ (cR T (rA i) y2 y3 y4 y5 rk rf rg rh)) s.heap := hP
  refine lv_aload_n hx hb dL_isStale_0 rfl (lv_at hl 3 rfl) ?_
  refine lv_iconst (v := 0) hx hb dL_isStale_1 (by decide) ?_
  refine lv_aload_n hx hb dL_isStale_2 rfl (lv_at hl 0 rfl) ?_
  refine lv_iload_n hx hb dL_isStale_3 rfl (lv_at hl 1 rfl) ?_
  refine lv_iload_n hx hb dL_isStale_4 rfl (lv_at hl 2 rfl) ?_
  refine gxi (vx_runV (As := [.int p0, .int p1]) (rest := [.int 0, .ref yo]) ⟨hx, hb, hml, hown, hts⟩ (kX2_isStale l hl0 G T na mo nm rs D mny nA rA j x2 x3 N f g i y2 y3 y4 y5 rk rf rg rh p0 p1 _ hr9 hj) (cwV 2 hts gL_isStale_X2_isStale rfl rfl rfl (by decide +kernel) ⟨Nat.le_of_ble_eq_true rfl, Nat.le_of_ble_eq_true rfl⟩) ⟨gblind, va_recv hK hP (ci := 2) (q0 := 1) rfl rfl, gpre hE hK hP hD hS hA [1, 2, 3, 4, 5, 6, 7, 8, 9, 10, 11, 12] rfl rfl⟩ rfl rfl hl.1 rfl (lv_room (Nat.le_of_ble_eq_true rfl)) dL_isStale_5 ⟨Nat.le_of_ble_eq_true rfl, Nat.le_of_ble_eq_true rfl⟩) hP hD hS hA [1, 2, 3, 4, 5, 6, 7, 8, 9, 10, 11, 12] rfl rfl (fun E9 ce9 q9 H locs he hP hD hS hce hcv hcl => ?_) (fun r9 H locs hw hP hD hS => ?_)
  · skip
    have hP : va_P G vwCl (([(yo, .inl (T 4, 1, .inr (.inl h0)))]) ++ (cA T na mo nm rs D mny nA rA) ++ (cN T (nA j) x2 x3 N f g) ++ (cR T (rA i) y2 y3 y4 y5 rk rf rg rh)) H := hP
    have hD : va_D (va_A (([(yo, .inl (T 4, 1, .inr (.inl h0)))]) ++ (cA T na mo nm rs D mny nA rA) ++ (cN T (nA j) x2 x3 N f g) ++ (cR T (rA i) y2 y3 y4 y5 rk rf rg rh)) s.heap.size) (([(yo, .inl (T 4, 1, .inr (.inl h0)))]) ++ (cA T na mo nm rs D mny nA rA) ++ (cN T (nA j) x2 x3 N f g) ++ (cR T (rA i) y2 y3 y4 y5 rk rf rg rh)) := hD
    rcases he with ⟨hk9, rfl⟩ | ⟨hk9, rfl⟩ | ⟨hk9, rfl⟩
    · skip
      refine vx_catch (own := RL) (name := "java/lang/IndexOutOfBoundsException") hown [] ⟨0, 17, 20, 13⟩ [] (htab.trans rfl) (fun z hz => nomatch hz) rfl (by decide) (hts (.classLink RL 13 "java/lang/IndexOutOfBoundsException") (by decide +kernel)) (va_Nw.use rfl (hE.1 (.castable "java/lang/IndexOutOfBoundsException" "java/lang/IndexOutOfBoundsException") (by decide +kernel))) hce hcv hcl ?_
      refine lv_astore (lv' := [(4, .ref q9), (0, .ref na), (1, .int p0), (2, .int p1), (3, .ref yo)]) hx hb dL_isStale_20 hl (by decide) rfl (fun ls hl => ?_)
      refine lv_iconst (v := 1) hx hb dL_isStale_22 (by decide) ?_
      exact W.iret (v := 1) hx hb hr (fun t ht9 hW => ⟨⟨1, (), rfl, by rw [hk9]; rfl, gBi ht9 (gfin hP (rfl))⟩, hS.F ht9⟩) hS.2.2 dL_isStale_23
    · skip
      exact absurd hk9 (by simp only [kRN]; repeat (first | split | decide))
    · skip
      exact absurd hk9 (by simp only [kRN]; repeat (first | split | decide))
  · skip
    have hP : va_P G vwCl (([(yo, .inl (T 4, 1, .inr (.inl h0)))]) ++ (cA T na mo nm rs D mny nA rA) ++ (cN T (nA j) x2 x3 N f g) ++ (cR T (rA i) y2 y3 y4 y5 rk rf rg rh)) H := hP
    have hD : va_D (va_A (([(yo, .inl (T 4, 1, .inr (.inl h0)))]) ++ (cA T na mo nm rs D mny nA rA) ++ (cN T (nA j) x2 x3 N f g) ++ (cR T (rA i) y2 y3 y4 y5 rk rf rg rh)) s.heap.size) (([(yo, .inl (T 4, 1, .inr (.inl h0)))]) ++ (cA T na mo nm rs D mny nA rA) ++ (cN T (nA j) x2 x3 N f g) ++ (cR T (rA i) y2 y3 y4 y5 rk rf rg rh)) := hD
    exact absurd hw.1 hk
abbrev PL_flush_ok (G : va_G) (T : Nat → ClassId) (na mo nm rs : Nat) (D mny : Nat → Int32) (nA rA : Nat → Nat) (i y2 y3 y4 y5 : Nat) (rk rf rg rh : Nat → Int32) (p0 : Int32) (yo : Nat) (h0 : Nat → Int64) (sz : Nat) : Array Value → State → Prop := gPc G T [.ref na, .int p0, .ref yo] (([(yo, .inl (T 4, 1, .inr (.inl h0)))]) ++ (cA T na mo nm rs D mny nA rA) ++ (cR T (rA i) y2 y3 y4 y5 rk rf rg rh)) sz
abbrev QL_flush_ok (G : va_G) (T : Nat → ClassId) (na mo nm rs : Nat) (D mny : Nat → Int32) (nA rA : Nat → Nat) (i y2 y3 y4 y5 : Nat) (rk rf rg rh : Nat → Int32) (p0 : Int32) (yo : Nat) (h0 : Nat → Int64) (sz : Nat) : Array Value → State → Outcome → State → Prop := va_Qi (fun (r : Int32) (_ : Unit) => r = 0) (gB G (([(yo, .inl (T 4, 1, .inr (.inl (vp_updL h0 0 ((sKept rk 16).toInt64)))))]) ++ (cA T na mo nm rs D mny nA rA) ++ (cR T (rA i) y2 y3 y4 y5 (fun _ => 0) rf rg rh))) (va_A (([(yo, .inl (T 4, 1, .inr (.inl h0)))]) ++ (cA T na mo nm rs D mny nA rA) ++ (cR T (rA i) y2 y3 y4 y5 rk rf rg rh)) sz)
set_option maxHeartbeats 4000000 in
set_option maxRecDepth 100000 in
theorem kL_flush_ok (l : Launch) (hl0 : l.stackTraces = false) (G : va_G) (T : Nat → ClassId) (na mo nm rs : Nat) (D mny : Nat → Int32) (nA rA : Nat → Nat) (i y2 y3 y4 y5 : Nat) (rk rf rg rh : Nat → Int32) (p0 : Int32) (yo : Nat) (h0 : Nat → Int64) (sz : Nat) (hr9 : okI p0 3 = true → p0 = nI i ∧ i < 3) (hk : (kRes p0) = 0) : Met l yL_flush wsL_flush ({ frames := 8, cells := 1, slots := 6, locals := 123 } : Room) (PL_flush_ok G T na mo nm rs D mny nA rA i y2 y3 y4 y5 rk rf rg rh p0 yo h0 sz) (QL_flush_ok G T na mo nm rs D mny nA rA i y2 y3 y4 y5 rk rf rg rh p0 yo h0 sz) 1 6 (va_A (([(yo, .inl (T 4, 1, .inr (.inl h0)))]) ++ (cA T na mo nm rs D mny nA rA) ++ (cR T (rA i) y2 y3 y4 y5 rk rf rg rh)) sz) := by
  refine va_MetW (cc := cL_flush) (maxL := 4) (ret := (some .int)) (hh := [(0, 9, 12, 13)]) (by decide) rfl ?_
  intro p e s m args below meth c s₁ B hml hv
  obtain ⟨rfl, hsz, hP, hK, hD0, hE⟩ := hv
  have hx := B.exec
  have hb := B.bytes
  have hr := B.returns
  have hts := atoms_spec (ws := wsL_flush) B.pre
  have hown : s.vm.findClass RL = some m.cls := findClass_of_methodNamed B.named
  have hlocks := B.notSynchronized
  have htab : c.exceptionTable.toList = tableOf [(0, 9, 12, 13)] := vx_table (x := yL_flush) B (hts _ List.mem_cons_self)
  subst hsz
  have hD := hD0.self (sz := s.heap.size)
  have hA : ∀ q : Nat, s.heap.size ≤ q → (va_A (([(yo, .inl (T 4, 1, .inr (.inl h0)))]) ++ (cA T na mo nm rs D mny nA rA) ++ (cR T (rA i) y2 y3 y4 y5 rk rf rg rh)) s.heap.size) q := fun q h => Or.inr h
  have hS : va_S (va_A (([(yo, .inl (T 4, 1, .inr (.inl h0)))]) ++ (cA T na mo nm rs D mny nA rA) ++ (cR T (rA i) y2 y3 y4 y5 rk rf rg rh)) s.heap.size) s.heap s.heap [] := va_S.rf
  have hl := lv_entry ([.ref na, .int p0, .ref yo]) (n := 4) (Nat.le_of_ble_eq_true rfl)
  rw [lg_entry_eq]
  generalize (lg_sl ([.ref na, .int p0, .ref yo]) ++ List.replicate (4 - (lg_sl ([.ref na, .int p0, .ref yo])).length) Slot.unset).toArray = ls at hl ⊢
  have hl : lv_has ls 4 [(0, .ref na), (1, .int p0), (2, .ref yo)] := hl
  have hP : va_P G vwCl (([(yo, .inl (T 4, 1, .inr (.inl h0)))]) ++ (cA T na mo nm rs D mny nA rA) ++ (cR T (rA i) y2 y3 y4 y5 rk rf rg rh)) s.heap := hP
  refine lv_aload_n hx hb dL_flush_0 rfl (lv_at hl 2 rfl) ?_
  refine lv_iconst (v := 0) hx hb dL_flush_1 (by decide) ?_
  refine lv_aload_n hx hb dL_flush_2 rfl (lv_at hl 0 rfl) ?_
  refine lv_iload_n hx hb dL_flush_3 rfl (lv_at hl 1 rfl) ?_
  refine gxi (vx_runV (As := [.int p0]) (rest := [.int 0, .ref yo]) ⟨hx, hb, hml, hown, hts⟩ (kX2_flush l hl0 G T na mo nm rs D mny nA rA i y2 y3 y4 y5 rk rf rg rh p0 _ hr9) (cwV 1 hts gL_flush_X2_flush rfl rfl rfl (by decide +kernel) ⟨Nat.le_of_ble_eq_true rfl, Nat.le_of_ble_eq_true rfl⟩) ⟨gblind, va_recv hK hP (ci := 2) (q0 := 1) rfl rfl, gpre hE hK hP hD hS hA [1, 2, 3, 4, 5, 6, 7, 8, 9] rfl rfl⟩ rfl rfl hl.1 rfl (lv_room (Nat.le_of_ble_eq_true rfl)) dL_flush_4 ⟨Nat.le_of_ble_eq_true rfl, Nat.le_of_ble_eq_true rfl⟩) hP hD hS hA [1, 2, 3, 4, 5, 6, 7, 8, 9] rfl rfl (fun E9 ce9 q9 H locs he hP hD hS hce hcv hcl => ?_) (fun r9 H locs hw hP hD hS => ?_)
  · skip
    have hP : va_P G vwCl (([(yo, .inl (T 4, 1, .inr (.inl h0)))]) ++ (cA T na mo nm rs D mny nA rA) ++ (cR T (rA i) y2 y3 y4 y5 rk rf rg rh)) H := hP
    have hD : va_D (va_A (([(yo, .inl (T 4, 1, .inr (.inl h0)))]) ++ (cA T na mo nm rs D mny nA rA) ++ (cR T (rA i) y2 y3 y4 y5 rk rf rg rh)) s.heap.size) (([(yo, .inl (T 4, 1, .inr (.inl h0)))]) ++ (cA T na mo nm rs D mny nA rA) ++ (cR T (rA i) y2 y3 y4 y5 rk rf rg rh)) := hD
    rcases he with ⟨hk9, rfl⟩ | ⟨hk9, rfl⟩ | ⟨hk9, rfl⟩
    · skip
      exact absurd (hk.symm.trans hk9) (by decide)
    · skip
      exact absurd (hk.symm.trans hk9) (by decide)
    · skip
      exact absurd (hk.symm.trans hk9) (by decide)
  · skip
    have hP : va_P G vwCl (([(yo, .inl (T 4, 1, .inr (.inl h0)))]) ++ (cA T na mo nm rs D mny nA rA) ++ (cR T (rA i) y2 y3 y4 y5 (fun _ => 0) rf rg rh)) H := hP
    have hD : va_D (va_A (([(yo, .inl (T 4, 1, .inr (.inl h0)))]) ++ (cA T na mo nm rs D mny nA rA) ++ (cR T (rA i) y2 y3 y4 y5 rk rf rg rh)) s.heap.size) (([(yo, .inl (T 4, 1, .inr (.inl h0)))]) ++ (cA T na mo nm rs D mny nA rA) ++ (cR T (rA i) y2 y3 y4 y5 (fun _ => 0) rf rg rh)) := hD
    obtain ⟨hok4, hw⟩ := hw
    subst hw
    refine lv_i2l (v := (sKept rk 16).toInt64) hx hb dL_flush_7 rfl ?_
    refine glast (j := 0) hx hb hK hP hD hS 0 4 rfl rfl (show (0 : Int32) = nI 0 from rfl) (by omega) (by decide) dL_flush_8 (fun H locs hP hD hS => ?_)
    have hP : va_P G vwCl (([(yo, .inl (T 4, 1, .inr (.inl (vp_updL h0 0 ((sKept rk 16).toInt64)))))]) ++ (cA T na mo nm rs D mny nA rA) ++ (cR T (rA i) y2 y3 y4 y5 (fun _ => 0) rf rg rh)) H := hP
    have hD : va_D (va_A (([(yo, .inl (T 4, 1, .inr (.inl h0)))]) ++ (cA T na mo nm rs D mny nA rA) ++ (cR T (rA i) y2 y3 y4 y5 rk rf rg rh)) s.heap.size) (([(yo, .inl (T 4, 1, .inr (.inl (vp_updL h0 0 ((sKept rk 16).toInt64)))))]) ++ (cA T na mo nm rs D mny nA rA) ++ (cR T (rA i) y2 y3 y4 y5 (fun _ => 0) rf rg rh)) := hD
    refine lv_goto (tgt := 15) hx hb dL_flush_9 (by decide) ?_
    refine lv_iconst (v := 0) hx hb dL_flush_15 (by decide) ?_
    exact W.iret (v := 0) hx hb hr (fun t ht9 hW => ⟨⟨0, (), rfl, rfl, gBi ht9 (gfin hP (rfl))⟩, hS.F ht9⟩) hS.2.2 dL_flush_16
abbrev PL_flush_no (G : va_G) (T : Nat → ClassId) (na mo nm rs : Nat) (D mny : Nat → Int32) (nA rA : Nat → Nat) (i y2 y3 y4 y5 : Nat) (rk rf rg rh : Nat → Int32) (p0 : Int32) (yo : Nat) (h0 : Nat → Int64) (sz : Nat) : Array Value → State → Prop := gPc G T [.ref na, .int p0, .ref yo] (([(yo, .inl (T 4, 1, .inr (.inl h0)))]) ++ (cA T na mo nm rs D mny nA rA) ++ (cR T (rA i) y2 y3 y4 y5 rk rf rg rh)) sz
abbrev QL_flush_no (G : va_G) (T : Nat → ClassId) (na mo nm rs : Nat) (D mny : Nat → Int32) (nA rA : Nat → Nat) (i y2 y3 y4 y5 : Nat) (rk rf rg rh : Nat → Int32) (p0 : Int32) (yo : Nat) (h0 : Nat → Int64) (sz : Nat) : Array Value → State → Outcome → State → Prop := va_Qi (fun (r : Int32) (_ : Unit) => r = w3 (kRes p0)) (gB G (([(yo, .inl (T 4, 1, .inr (.inl h0)))]) ++ (cA T na mo nm rs D mny nA rA) ++ (cR T (rA i) y2 y3 y4 y5 rk rf rg rh))) (va_A (([(yo, .inl (T 4, 1, .inr (.inl h0)))]) ++ (cA T na mo nm rs D mny nA rA) ++ (cR T (rA i) y2 y3 y4 y5 rk rf rg rh)) sz)
set_option maxHeartbeats 4000000 in
set_option maxRecDepth 100000 in
theorem kL_flush_no (l : Launch) (hl0 : l.stackTraces = false) (G : va_G) (T : Nat → ClassId) (na mo nm rs : Nat) (D mny : Nat → Int32) (nA rA : Nat → Nat) (i y2 y3 y4 y5 : Nat) (rk rf rg rh : Nat → Int32) (p0 : Int32) (yo : Nat) (h0 : Nat → Int64) (sz : Nat) (hr9 : okI p0 3 = true → p0 = nI i ∧ i < 3) (hk : ¬ (kRes p0) = 0) : Met l yL_flush wsL_flush ({ frames := 8, cells := 1, slots := 6, locals := 123 } : Room) (PL_flush_no G T na mo nm rs D mny nA rA i y2 y3 y4 y5 rk rf rg rh p0 yo h0 sz) (QL_flush_no G T na mo nm rs D mny nA rA i y2 y3 y4 y5 rk rf rg rh p0 yo h0 sz) 1 6 (va_A (([(yo, .inl (T 4, 1, .inr (.inl h0)))]) ++ (cA T na mo nm rs D mny nA rA) ++ (cR T (rA i) y2 y3 y4 y5 rk rf rg rh)) sz) := by
  refine va_MetW (cc := cL_flush) (maxL := 4) (ret := (some .int)) (hh := [(0, 9, 12, 13)]) (by decide) rfl ?_
  intro p e s m args below meth c s₁ B hml hv
  obtain ⟨rfl, hsz, hP, hK, hD0, hE⟩ := hv
  have hx := B.exec
  have hb := B.bytes
  have hr := B.returns
  have hts := atoms_spec (ws := wsL_flush) B.pre
  have hown : s.vm.findClass RL = some m.cls := findClass_of_methodNamed B.named
  have hlocks := B.notSynchronized
  have htab : c.exceptionTable.toList = tableOf [(0, 9, 12, 13)] := vx_table (x := yL_flush) B (hts _ List.mem_cons_self)
  subst hsz
  have hD := hD0.self (sz := s.heap.size)
  have hA : ∀ q : Nat, s.heap.size ≤ q → (va_A (([(yo, .inl (T 4, 1, .inr (.inl h0)))]) ++ (cA T na mo nm rs D mny nA rA) ++ (cR T (rA i) y2 y3 y4 y5 rk rf rg rh)) s.heap.size) q := fun q h => Or.inr h
  have hS : va_S (va_A (([(yo, .inl (T 4, 1, .inr (.inl h0)))]) ++ (cA T na mo nm rs D mny nA rA) ++ (cR T (rA i) y2 y3 y4 y5 rk rf rg rh)) s.heap.size) s.heap s.heap [] := va_S.rf
  have hl := lv_entry ([.ref na, .int p0, .ref yo]) (n := 4) (Nat.le_of_ble_eq_true rfl)
  rw [lg_entry_eq]
  generalize (lg_sl ([.ref na, .int p0, .ref yo]) ++ List.replicate (4 - (lg_sl ([.ref na, .int p0, .ref yo])).length) Slot.unset).toArray = ls at hl ⊢
  have hl : lv_has ls 4 [(0, .ref na), (1, .int p0), (2, .ref yo)] := hl
  have hP : va_P G vwCl (([(yo, .inl (T 4, 1, .inr (.inl h0)))]) ++ (cA T na mo nm rs D mny nA rA) ++ (cR T (rA i) y2 y3 y4 y5 rk rf rg rh)) s.heap := hP
  refine lv_aload_n hx hb dL_flush_0 rfl (lv_at hl 2 rfl) ?_
  refine lv_iconst (v := 0) hx hb dL_flush_1 (by decide) ?_
  refine lv_aload_n hx hb dL_flush_2 rfl (lv_at hl 0 rfl) ?_
  refine lv_iload_n hx hb dL_flush_3 rfl (lv_at hl 1 rfl) ?_
  refine gxi (vx_runV (As := [.int p0]) (rest := [.int 0, .ref yo]) ⟨hx, hb, hml, hown, hts⟩ (kX2_flush l hl0 G T na mo nm rs D mny nA rA i y2 y3 y4 y5 rk rf rg rh p0 _ hr9) (cwV 1 hts gL_flush_X2_flush rfl rfl rfl (by decide +kernel) ⟨Nat.le_of_ble_eq_true rfl, Nat.le_of_ble_eq_true rfl⟩) ⟨gblind, va_recv hK hP (ci := 2) (q0 := 1) rfl rfl, gpre hE hK hP hD hS hA [1, 2, 3, 4, 5, 6, 7, 8, 9] rfl rfl⟩ rfl rfl hl.1 rfl (lv_room (Nat.le_of_ble_eq_true rfl)) dL_flush_4 ⟨Nat.le_of_ble_eq_true rfl, Nat.le_of_ble_eq_true rfl⟩) hP hD hS hA [1, 2, 3, 4, 5, 6, 7, 8, 9] rfl rfl (fun E9 ce9 q9 H locs he hP hD hS hce hcv hcl => ?_) (fun r9 H locs hw hP hD hS => ?_)
  · skip
    have hP : va_P G vwCl (([(yo, .inl (T 4, 1, .inr (.inl h0)))]) ++ (cA T na mo nm rs D mny nA rA) ++ (cR T (rA i) y2 y3 y4 y5 rk rf rg rh)) H := hP
    have hD : va_D (va_A (([(yo, .inl (T 4, 1, .inr (.inl h0)))]) ++ (cA T na mo nm rs D mny nA rA) ++ (cR T (rA i) y2 y3 y4 y5 rk rf rg rh)) s.heap.size) (([(yo, .inl (T 4, 1, .inr (.inl h0)))]) ++ (cA T na mo nm rs D mny nA rA) ++ (cR T (rA i) y2 y3 y4 y5 rk rf rg rh)) := hD
    rcases he with ⟨hk9, rfl⟩ | ⟨hk9, rfl⟩ | ⟨hk9, rfl⟩
    · skip
      refine vx_catch (own := RL) (name := "java/lang/IndexOutOfBoundsException") hown [] ⟨0, 9, 12, 13⟩ [] (htab.trans rfl) (fun z hz => nomatch hz) rfl (by decide) (hts (.classLink RL 13 "java/lang/IndexOutOfBoundsException") (by decide +kernel)) (va_Nw.use rfl (hE.1 (.castable "java/lang/IndexOutOfBoundsException" "java/lang/IndexOutOfBoundsException") (by decide +kernel))) hce hcv hcl ?_
      refine lv_astore_n (lv' := [(3, .ref q9), (0, .ref na), (1, .int p0), (2, .ref yo)]) hx hb dL_flush_12 rfl hl (by decide) rfl (fun ls hl => ?_)
      refine lv_iconst (v := 1) hx hb dL_flush_13 (by decide) ?_
      exact W.iret (v := 1) hx hb hr (fun t ht9 hW => ⟨⟨1, (), rfl, by rw [hk9]; rfl, gBi ht9 (gfin hP (rfl))⟩, hS.F ht9⟩) hS.2.2 dL_flush_14
    · skip
      exact absurd hk9 (by simp only [kRes]; repeat (first | split | decide))
    · skip
      exact absurd hk9 (by simp only [kRes]; repeat (first | split | decide))
  · skip
    have hP : va_P G vwCl (([(yo, .inl (T 4, 1, .inr (.inl h0)))]) ++ (cA T na mo nm rs D mny nA rA) ++ (cR T (rA i) y2 y3 y4 y5 (fun _ => 0) rf rg rh)) H := hP
    have hD : va_D (va_A (([(yo, .inl (T 4, 1, .inr (.inl h0)))]) ++ (cA T na mo nm rs D mny nA rA) ++ (cR T (rA i) y2 y3 y4 y5 rk rf rg rh)) s.heap.size) (([(yo, .inl (T 4, 1, .inr (.inl h0)))]) ++ (cA T na mo nm rs D mny nA rA) ++ (cR T (rA i) y2 y3 y4 y5 (fun _ => 0) rf rg rh)) := hD
    exact absurd hw.1 hk
