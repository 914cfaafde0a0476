/-! THE LAW'S OWN CALLS of the class (does, asks), by the number of the call: what is thrown is caught and told by a number -/
/-- what a refused call is told by -/
def wD : Nat → Int32
  | 1 => -30
  | 2 => -20
  | _ => -10
abbrev PL_does_0_ok (G : va_G) (T : Nat → ClassId) (na mo nm rs : Nat) (D mny : Nat → Int32) (nA rA : Nat → Nat) (p0 p1 : Int32) (i : Nat) (z2 : Int32) (sz : Nat) : Array Value → State → Prop := gPc G T [.ref na, .int 0, .int p0, .int p1, .int z2] (cA T na mo nm rs D mny nA rA) sz
abbrev QL_does_0_ok (G : va_G) (T : Nat → ClassId) (na mo nm rs : Nat) (D mny : Nat → Int32) (nA rA : Nat → Nat) (p0 p1 : Int32) (i : Nat) (z2 : Int32) (sz : Nat) : Array Value → State → Outcome → State → Prop := va_Qi (fun (r : Int32) (_ : Unit) => r = mny i + p1) (gB G (cA T na mo nm rs D (upd mny i (mny i + p1)) nA rA)) (va_A (cA T na mo nm rs D mny nA rA) sz)
set_option maxHeartbeats 4000000 in
set_option maxRecDepth 100000 in
theorem kL_does_0_ok (l : Launch) (hl0 : l.stackTraces = false) (G : va_G) (T : Nat → ClassId) (na mo nm rs : Nat) (D mny : Nat → Int32) (nA rA : Nat → Nat) (p0 p1 : Int32) (i : Nat) (z2 : Int32) (sz : Nat) (hi : okI p0 6 = true → p0 = nI i ∧ i < 6) (hk : (kDep p0 p1) = 0) : Met l yL_does wsL_does ({ frames := 8, cells := 2, slots := 12, locals := 125 } : Room) (PL_does_0_ok G T na mo nm rs D mny nA rA p0 p1 i z2 sz) (QL_does_0_ok G T na mo nm rs D mny nA rA p0 p1 i z2 sz) 2 12 (va_A (cA T na mo nm rs D mny nA rA) sz) := by
  refine va_MetW (cc := cL_does) (maxL := 6) (ret := (some .int)) (hh := [(0, 129, 130, 41), (0, 129, 135, 43), (0, 129, 140, 45)]) (by decide) rfl ?_
  intro p e s m args below meth c s₁ B hml hv
  obtain ⟨rfl, hsz, hP, hK, hD0, hE⟩ := hv
  have hx := B.exec
  have hb := B.bytes
  have hr := B.returns
  have hts := atoms_spec (ws := wsL_does) B.pre
  have hown : s.vm.findClass RL = some m.cls := findClass_of_methodNamed B.named
  have hlocks := B.notSynchronized
  have htab : c.exceptionTable.toList = tableOf [(0, 129, 130, 41), (0, 129, 135, 43), (0, 129, 140, 45)] := vx_table (x := yL_does) B (hts _ List.mem_cons_self)
  subst hsz
  have hD := hD0.self (sz := s.heap.size)
  have hA : ∀ q : Nat, s.heap.size ≤ q → (va_A (cA T na mo nm rs D mny nA rA) s.heap.size) q := fun q h => Or.inr h
  have hS : va_S (va_A (cA T na mo nm rs D mny nA rA) s.heap.size) s.heap s.heap [] := va_S.rf
  have hl := lv_entry ([.ref na, .int 0, .int p0, .int p1, .int z2]) (n := 6) (Nat.le_of_ble_eq_true rfl)
  rw [lg_entry_eq]
  generalize (lg_sl ([.ref na, .int 0, .int p0, .int p1, .int z2]) ++ List.replicate (6 - (lg_sl ([.ref na, .int 0, .int p0, .int p1, .int z2])).length) Slot.unset).toArray = ls at hl ⊢
  have hl : lv_has ls 6 [(0, .ref na), (1, .int 0), (2, .int p0), (3, .int p1), (4, .int z2)] := hl
  have hP : va_P G vwCl (cA T na mo nm rs D mny nA rA) s.heap := hP
  refine lv_iload_n hx hb dL_does_0 rfl (lv_at hl 1 rfl) ?_
  refine lv_if_ne (tgt := 13) hx hb dL_does_1 (by decide) (fun c1 => ?_) (fun c1 => ?_)
  · exact absurd c1 (by decide)
  · skip
    refine lv_aload_n hx hb dL_does_4 rfl (lv_at hl 0 rfl) ?_
    refine lv_iload_n hx hb dL_does_5 rfl (lv_at hl 2 rfl) ?_
    refine lv_iload_n hx hb dL_does_6 rfl (lv_at hl 3 rfl) ?_
    refine gxi (vx_runV (As := [.int p0, .int p1]) (rest := []) ⟨hx, hb, hml, hown, hts⟩ (kX2_deposit l hl0 G T na mo nm rs D mny nA rA p0 p1 i _ hi) (cwV 2 hts gL_does_X2_deposit rfl rfl rfl (by decide +kernel) ⟨Nat.le_of_ble_eq_true rfl, Nat.le_of_ble_eq_true rfl⟩) ⟨gblind, va_recv hK hP (ci := 2) (q0 := 0) rfl rfl, gpre hE hK hP hD hS hA [0, 1, 2, 3] rfl rfl⟩ rfl rfl hl.1 rfl (lv_room (Nat.le_of_ble_eq_true rfl)) dL_does_7 ⟨Nat.le_of_ble_eq_true rfl, Nat.le_of_ble_eq_true rfl⟩) hP hD hS hA [0, 1, 2, 3] rfl rfl (fun E9 ce9 q9 H locs he hP hD hS hce hcv hcl => ?_) (fun r9 H locs hw hP hD hS => ?_)
    · skip
      have hP : va_P G vwCl (cA T na mo nm rs D mny nA rA) H := hP
      have hD : va_D (va_A (cA T na mo nm rs D mny nA rA) s.heap.size) (cA T na mo nm rs D mny nA rA) := hD
      rcases he with ⟨hk9, rfl⟩ | ⟨hk9, rfl⟩ | ⟨hk9, rfl⟩
      · skip
        exact absurd (hk.symm.trans hk9) (by decide)
      · skip
        exact absurd (hk.symm.trans hk9) (by decide)
      · skip
        exact absurd (hk.symm.trans hk9) (by decide)
    · skip
      have hP : va_P G vwCl (cA T na mo nm rs D (upd mny i (mny i + p1)) nA rA) H := hP
      have hD : va_D (va_A (cA T na mo nm rs D mny nA rA) s.heap.size) (cA T na mo nm rs D (upd mny i (mny i + p1)) nA rA) := hD
      obtain ⟨hok7, hw⟩ := hw
      subst hw
      refine lv_goto (tgt := 129) hx hb dL_does_10 (by decide) ?_
      exact W.iret (v := mny i + p1) hx hb hr (fun t ht9 hW => ⟨⟨mny i + p1, (), rfl, rfl, gBi ht9 (gfin hP (rfl))⟩, hS.F ht9⟩) hS.2.2 dL_does_129
abbrev PL_does_0_no (G : va_G) (T : Nat → ClassId) (na mo nm rs : Nat) (D mny : Nat → Int32) (nA rA : Nat → Nat) (p0 p1 : Int32) (i : Nat) (z2 : Int32) (sz : Nat) : Array Value → State → Prop := gPc G T [.ref na, .int 0, .int p0, .int p1, .int z2] (cA T na mo nm rs D mny nA rA) sz
abbrev QL_does_0_no (G : va_G) (T : Nat → ClassId) (na mo nm rs : Nat) (D mny : Nat → Int32) (nA rA : Nat → Nat) (p0 p1 : Int32) (i : Nat) (z2 : Int32) (sz : Nat) : Array Value → State → Outcome → State → Prop := va_Qi (fun (r : Int32) (_ : Unit) => r = wD (kDep p0 p1)) (gB G (cA T na mo nm rs D mny nA rA)) (va_A (cA T na mo nm rs D mny nA rA) sz)
set_option maxHeartbeats 4000000 in
set_option maxRecDepth 100000 in
theorem kL_does_0_no (l : Launch) (hl0 : l.stackTraces = false) (G : va_G) (T : Nat → ClassId) (na mo nm rs : Nat) (D mny : Nat → Int32) (nA rA : Nat → Nat) (p0 p1 : Int32) (i : Nat) (z2 : Int32) (sz : Nat) (hi : okI p0 6 = true → p0 = nI i ∧ i < 6) (hk : ¬ (kDep p0 p1) = 0) : Met l yL_does wsL_does ({ frames := 8, cells := 2, slots := 12, locals := 125 } : Room) (PL_does_0_no G T na mo nm rs D mny nA rA p0 p1 i z2 sz) (QL_does_0_no G T na mo nm rs D mny nA rA p0 p1 i z2 sz) 2 12 (va_A (cA T na mo nm rs D mny nA rA) sz) := by
  refine va_MetW (cc := cL_does) (maxL := 6) (ret := (some .int)) (hh := [(0, 129, 130, 41), (0, 129, 135, 43), (0, 129, 140, 45)]) (by decide) rfl ?_
  intro p e s m args below meth c s₁ B hml hv
  obtain ⟨rfl, hsz, hP, hK, hD0, hE⟩ := hv
  have hx := B.exec
  have hb := B.bytes
  have hr := B.returns
  have hts := atoms_spec (ws := wsL_does) B.pre
  have hown : s.vm.findClass RL = some m.cls := findClass_of_methodNamed B.named
  have hlocks := B.notSynchronized
  have htab : c.exceptionTable.toList = tableOf [(0, 129, 130, 41), (0, 129, 135, 43), (0, 129, 140, 45)] := vx_table (x := yL_does) B (hts _ List.mem_cons_self)
  subst hsz
  have hD := hD0.self (sz := s.heap.size)
  have hA : ∀ q : Nat, s.heap.size ≤ q → (va_A (cA T na mo nm rs D mny nA rA) s.heap.size) q := fun q h => Or.inr h
  have hS : va_S (va_A (cA T na mo nm rs D mny nA rA) s.heap.size) s.heap s.heap [] := va_S.rf
  have hl := lv_entry ([.ref na, .int 0, .int p0, .int p1, .int z2]) (n := 6) (Nat.le_of_ble_eq_true rfl)
  rw [lg_entry_eq]
  generalize (lg_sl ([.ref na, .int 0, .int p0, .int p1, .int z2]) ++ List.replicate (6 - (lg_sl ([.ref na, .int 0, .int p0, .int p1, .int z2])).length) Slot.unset).toArray = ls at hl ⊢
  have hl : lv_has ls 6 [(0, .ref na), (1, .int 0), (2, .int p0), (3, .int p1), (4, .int z2)] := hl
  have hP : va_P G vwCl (cA T na mo nm rs D mny nA rA) s.heap := hP
  refine lv_iload_n hx hb dL_does_0 rfl (lv_at hl 1 rfl) ?_
  refine lv_if_ne (tgt := 13) hx hb dL_does_1 (by decide) (fun c1 => ?_) (fun c1 => ?_)
  · exact absurd c1 (by decide)
  · skip
    refine lv_aload_n hx hb dL_does_4 rfl (lv_at hl 0 rfl) ?_
    refine lv_iload_n hx hb dL_does_5 rfl (lv_at hl 2 rfl) ?_
    refine lv_iload_n hx hb dL_does_6 rfl (lv_at hl 3 rfl) ?_
    refine gxi (vx_runV (As := [.int p0, .int p1]) (rest := []) ⟨hx, hb, hml, hown, hts⟩ (kX2_deposit l hl0 G T na mo nm rs D mny nA rA p0 p1 i _ hi) (cwV 2 hts gL_does_X2_deposit rfl rfl rfl (by decide +kernel) ⟨Nat.le_of_ble_eq_true rfl, Nat.le_of_ble_eq_true rfl⟩) ⟨gblind, va_recv hK hP (ci := 2) (q0 := 0) rfl rfl, gpre hE hK hP hD hS hA [0, 1, 2, 3] rfl rfl⟩ rfl rfl hl.1 rfl (lv_room (Nat.le_of_ble_eq_true rfl)) dL_does_7 ⟨Nat.le_of_ble_eq_true rfl, Nat.le_of_ble_eq_true rfl⟩) hP hD hS hA [0, 1, 2, 3] rfl rfl (fun E9 ce9 q9 H locs he hP hD hS hce hcv hcl => ?_) (fun r9 H locs hw hP hD hS => ?_)
    · skip
      have hP : va_P G vwCl (cA T na mo nm rs D mny nA rA) H := hP
      have hD : va_D (va_A (cA T na mo nm rs D mny nA rA) s.heap.size) (cA T na mo nm rs D mny nA rA) := hD
      rcases he with ⟨hk9, rfl⟩ | ⟨hk9, rfl⟩ | ⟨hk9, rfl⟩
      · skip
        refine vx_catch (own := RL) (name := "java/lang/IndexOutOfBoundsException") hown [] ⟨0, 129, 130, 41⟩ [⟨0, 129, 135, 43⟩, ⟨0, 129, 140, 45⟩] (htab.trans rfl) (fun z hz => nomatch hz) rfl (by decide) (hts (.classLink RL 41 "java/lang/IndexOutOfBoundsException") (by decide +kernel)) (va_Nw.use rfl (hE.1 (.castable "java/lang/IndexOutOfBoundsException" "java/lang/IndexOutOfBoundsException") (by decide +kernel))) hce hcv hcl ?_
        refine lv_astore (lv' := [(5, .ref q9), (0, .ref na), (1, .int 0), (2, .int p0), (3, .int p1), (4, .int z2)]) hx hb dL_does_130 hl (by decide) rfl (fun ls hl => ?_)
        refine lv_bipush (v := (-30)) hx hb dL_does_132 (by decide) ?_
        exact W.iret (v := (-30)) hx hb hr (fun t ht9 hW => ⟨⟨(-30), (), rfl, by rw [hk9]; rfl, gBi ht9 (gfin hP (rfl))⟩, hS.F ht9⟩) hS.2.2 dL_does_134
      · skip
        refine vx_catch (own := RL) (name := "java/lang/IllegalArgumentException") hown [⟨0, 129, 130, 41⟩] ⟨0, 129, 135, 43⟩ [⟨0, 129, 140, 45⟩] (htab.trans rfl) (fun z hz => by cases List.mem_singleton.mp hz; exact Or.inr ⟨by decide, "java/lang/IndexOutOfBoundsException", hts (.classLink RL 41 "java/lang/IndexOutOfBoundsException") (by decide +kernel), hE.2.1.1⟩) rfl (by decide) (hts (.classLink RL 43 "java/lang/IllegalArgumentException") (by decide +kernel)) (va_Nw.use rfl (hE.1 (.castable "java/lang/IllegalArgumentException" "java/lang/IllegalArgumentException") (by decide +kernel))) hce hcv hcl ?_
        refine lv_astore (lv' := [(5, .ref q9), (0, .ref na), (1, .int 0), (2, .int p0), (3, .int p1), (4, .int z2)]) hx hb dL_does_135 hl (by decide) rfl (fun ls hl => ?_)
        refine lv_bipush (v := (-20)) hx hb dL_does_137 (by decide) ?_
        exact W.iret (v := (-20)) hx hb hr (fun t ht9 hW => ⟨⟨(-20), (), rfl, by rw [hk9]; rfl, gBi ht9 (gfin hP (rfl))⟩, hS.F ht9⟩) hS.2.2 dL_does_139
      · skip
        exact absurd hk9 (by simp only [kDep]; repeat (first | split | decide))
    · skip
      have hP : va_P G vwCl (cA T na mo nm rs D (upd mny i (mny i + p1)) nA rA) H := hP
      have hD : va_D (va_A (cA T na mo nm rs D mny nA rA) s.heap.size) (cA T na mo nm rs D (upd mny i (mny i + p1)) nA rA) := hD
      exact absurd hw.1 hk
abbrev PL_does_1_ok (G : va_G) (T : Nat → ClassId) (na mo nm rs : Nat) (D mny : Nat → Int32) (nA rA : Nat → Nat) (j x2 x3 : Nat) (N f g : Nat → Int32) (p0 p1 p2 : Int32) (i : Nat) (sz : Nat) : Array Value → State → Prop := gPc G T [.ref na, .int 1, .int p0, .int p1, .int p2] ((cA T na mo nm rs D mny nA rA) ++ (cN T (nA j) x2 x3 N f g)) sz
abbrev QL_does_1_ok (G : va_G) (T : Nat → ClassId) (na mo nm rs : Nat) (D mny : Nat → Int32) (nA rA : Nat → Nat) (j x2 x3 : Nat) (N f g : Nat → Int32) (p0 p1 p2 : Int32) (i : Nat) (sz : Nat) : Array Value → State → Outcome → State → Prop := va_Qi (fun (r : Int32) (_ : Unit) => r = sBidN N D 2) (gB G ((cA T na mo nm rs (upd D 5 (D 5 + 1)) mny nA rA) ++ (cN T (nA j) x2 x3 (sBidN N D) (upd f i p2) (upd g i (D 5 + 1))))) (va_A ((cA T na mo nm rs D mny nA rA) ++ (cN T (nA j) x2 x3 N f g)) sz)
set_option maxHeartbeats 4000000 in
set_option maxRecDepth 100000 in
theorem kL_does_1_ok (l : Launch) (hl0 : l.stackTraces = false) (G : va_G) (T : Nat → ClassId) (na mo nm rs : Nat) (D mny : Nat → Int32) (nA rA : Nat → Nat) (j x2 x3 : Nat) (N f g : Nat → Int32) (p0 p1 p2 : Int32) (i : Nat) (sz : Nat) (hi : okI p0 6 = true → p0 = nI i ∧ i < 6) (hj : okI p1 16 = true → p1 = nI j ∧ j < 16) (hk : (kBid p0 p1 p2 N) = 0) : Met l yL_does wsL_does ({ frames := 8, cells := 4, slots := 24, locals := 127 } : Room) (PL_does_1_ok G T na mo nm rs D mny nA rA j x2 x3 N f g p0 p1 p2 i sz) (QL_does_1_ok G T na mo nm rs D mny nA rA j x2 x3 N f g p0 p1 p2 i sz) 4 24 (va_A ((cA T na mo nm rs D mny nA rA) ++ (cN T (nA j) x2 x3 N f g)) sz) := by
  refine va_MetW (cc := cL_does) (maxL := 6) (ret := (some .int)) (hh := [(0, 129, 130, 41), (0, 129, 135, 43), (0, 129, 140, 45)]) (by decide) rfl ?_
  intro p e s m args below meth c s₁ B hml hv
  obtain ⟨rfl, hsz, hP, hK, hD0, hE⟩ := hv
  have hx := B.exec
  have hb := B.bytes
  have hr := B.returns
  have hts := atoms_spec (ws := wsL_does) B.pre
  have hown : s.vm.findClass RL = some m.cls := findClass_of_methodNamed B.named
  have hlocks := B.notSynchronized
  have htab : c.exceptionTable.toList = tableOf [(0, 129, 130, 41), (0, 129, 135, 43), (0, 129, 140, 45)] := vx_table (x := yL_does) B (hts _ List.mem_cons_self)
  subst hsz
  have hD := hD0.self (sz := s.heap.size)
  have hA : ∀ q : Nat, s.heap.size ≤ q → (va_A ((cA T na mo nm rs D mny nA rA) ++ (cN T (nA j) x2 x3 N f g)) s.heap.size) q := fun q h => Or.inr h
  have hS : va_S (va_A ((cA T na mo nm rs D mny nA rA) ++ (cN T (nA j) x2 x3 N f g)) s.heap.size) s.heap s.heap [] := va_S.rf
  have hl := lv_entry ([.ref na, .int 1, .int p0, .int p1, .int p2]) (n := 6) (Nat.le_of_ble_eq_true rfl)
  rw [lg_entry_eq]
  generalize (lg_sl ([.ref na, .int 1, .int p0, .int p1, .int p2]) ++ List.replicate (6 - (lg_sl ([.ref na, .int 1, .int p0, .int p1, .int p2])).length) Slot.unset).toArray = ls at hl ⊢
  have hl : lv_has ls 6 [(0, .ref na), (1, .int 1), (2, .int p0), (3, .int p1), (4, .int p2)] := hl
  have hP : va_P G vwCl ((cA T na mo nm rs D mny nA rA) ++ (cN T (nA j) x2 x3 N f g)) s.heap := hP
  refine lv_iload_n hx hb dL_does_0 rfl (lv_at hl 1 rfl) ?_
  refine lv_if_ne (tgt := 13) hx hb dL_does_1 (by decide) (fun c1 => ?_) (fun c1 => ?_)
  · skip
    refine lv_iload_n hx hb dL_does_13 rfl (lv_at hl 1 rfl) ?_
    refine lv_iconst (v := 1) hx hb dL_does_14 (by decide) ?_
    refine lv_icmp_ne (tgt := 29) hx hb dL_does_15 (by decide) (fun c15 => ?_) (fun c15 => ?_)
    · exact absurd c15 (by decide)
    · skip
      refine lv_aload_n hx hb dL_does_18 rfl (lv_at hl 0 rfl) ?_
      refine lv_iload_n hx hb dL_does_19 rfl (lv_at hl 2 rfl) ?_
      refine lv_iload_n hx hb dL_does_20 rfl (lv_at hl 3 rfl) ?_
      refine lv_iload hx hb dL_does_21 (lv_at hl 4 rfl) ?_
      refine gxi (vx_runV (As := [.int p0, .int p1, .int p2]) (rest := []) ⟨hx, hb, hml, hown, hts⟩ (kX2_bid l hl0 G T na mo nm rs D mny nA rA j x2 x3 N f g p0 p1 p2 i _ hi hj) (cwV 3 hts gL_does_X2_bid rfl rfl rfl (by decide +kernel) ⟨Nat.le_of_ble_eq_true rfl, Nat.le_of_ble_eq_true rfl⟩) ⟨gblind, va_recv hK hP (ci := 2) (q0 := 0) rfl rfl, gpre hE hK hP hD hS hA [0, 1, 2, 3, 4, 5, 6] rfl rfl⟩ rfl rfl hl.1 rfl (lv_room (Nat.le_of_ble_eq_true rfl)) dL_does_23 ⟨Nat.le_of_ble_eq_true rfl, Nat.le_of_ble_eq_true rfl⟩) hP hD hS hA [0, 1, 2, 3, 4, 5, 6] rfl rfl (fun E9 ce9 q9 H locs he hP hD hS hce hcv hcl => ?_) (fun r9 H locs hw hP hD hS => ?_)
      · skip
        have hP : va_P G vwCl ((cA T na mo nm rs D mny nA rA) ++ (cN T (nA j) x2 x3 N f g)) H := hP
        have hD : va_D (va_A ((cA T na mo nm rs D mny nA rA) ++ (cN T (nA j) x2 x3 N f g)) s.heap.size) ((cA T na mo nm rs D mny nA rA) ++ (cN T (nA j) x2 x3 N f g)) := hD
        rcases he with ⟨hk9, rfl⟩ | ⟨hk9, rfl⟩ | ⟨hk9, rfl⟩
        · skip
          exact absurd (hk.symm.trans hk9) (by decide)
        · skip
          exact absurd (hk.symm.trans hk9) (by decide)
        · skip
          exact absurd (hk.symm.trans hk9) (by decide)
      · skip
        have hP : va_P G vwCl ((cA T na mo nm rs (upd D 5 (D 5 + 1)) mny nA rA) ++ (cN T (nA j) x2 x3 (sBidN N D) (upd f i p2) (upd g i (D 5 + 1)))) H := hP
        have hD : va_D (va_A ((cA T na mo nm rs D mny nA rA) ++ (cN T (nA j) x2 x3 N f g)) s.heap.size) ((cA T na mo nm rs (upd D 5 (D 5 + 1)) mny nA rA) ++ (cN T (nA j) x2 x3 (sBidN N D) (upd f i p2) (upd g i (D 5 + 1)))) := hD
        obtain ⟨hok23, hw⟩ := hw
        subst hw
        refine lv_goto (tgt := 129) hx hb dL_does_26 (by decide) ?_
        exact W.iret (v := sBidN N D 2) hx hb hr (fun t ht9 hW => ⟨⟨sBidN N D 2, (), rfl, rfl, gBi ht9 (gfin hP (rfl))⟩, hS.F ht9⟩) hS.2.2 dL_does_129
  · exact absurd c1 (by decide)
abbrev PL_does_1_no (G : va_G) (T : Nat → ClassId) (na mo nm rs : Nat) (D mny : Nat → Int32) (nA rA : Nat → Nat) (j x2 x3 : Nat) (N f g : Nat → Int32) (p0 p1 p2 : Int32) (i : Nat) (sz : Nat) : Array Value → State → Prop := gPc G T [.ref na, .int 1, .int p0, .int p1, .int p2] ((cA T na mo nm rs D mny nA rA) ++ (cN T (nA j) x2 x3 N f g)) sz
abbrev QL_does_1_no (G : va_G) (T : Nat → ClassId) (na mo nm rs : Nat) (D mny : Nat → Int32) (nA rA : Nat → Nat) (j x2 x3 : Nat) (N f g : Nat → Int32) (p0 p1 p2 : Int32) (i : Nat) (sz : Nat) : Array Value → State → Outcome → State → Prop := va_Qi (fun (r : Int32) (_ : Unit) => r = wD (kBid p0 p1 p2 N)) (gB G ((cA T na mo nm rs D mny nA rA) ++ (cN T (nA j) x2 x3 N f g))) (va_A ((cA T na mo nm rs D mny nA rA) ++ (cN T (nA j) x2 x3 N f g)) sz)
set_option maxHeartbeats 4000000 in
set_option maxRecDepth 100000 in
theorem kL_does_1_no (l : Launch) (hl0 : l.stackTraces = false) (G : va_G) (T : Nat → ClassId) (na mo nm rs : Nat) (D mny : Nat → Int32) (nA rA : Nat → Nat) (j x2 x3 : Nat) (N f g : Nat → Int32) (p0 p1 p2 : Int32) (i : Nat) (sz : Nat) (hi : okI p0 6 = true → p0 = nI i ∧ i < 6) (hj : okI p1 16 = true → p1 = nI j ∧ j < 16) (hk : ¬ (kBid p0 p1 p2 N) = 0) : Met l yL_does wsL_does ({ frames := 8, cells := 4, slots := 24, locals := 127 } : Room) (PL_does_1_no G T na mo nm rs D mny nA rA j x2 x3 N f g p0 p1 p2 i sz) (QL_does_1_no G T na mo nm rs D mny nA rA j x2 x3 N f g p0 p1 p2 i sz) 4 24 (va_A ((cA T na mo nm rs D mny nA rA) ++ (cN T (nA j) x2 x3 N f g)) sz) := by
  refine va_MetW (cc := cL_does) (maxL := 6) (ret := (some .int)) (hh := [(0, 129, 130, 41), (0, 129, 135, 43), (0, 129, 140, 45)]) (by decide) rfl ?_
  intro p e s m args below meth c s₁ B hml hv
  obtain ⟨rfl, hsz, hP, hK, hD0, hE⟩ := hv
  have hx := B.exec
  have hb := B.bytes
  have hr := B.returns
  have hts := atoms_spec (ws := wsL_does) B.pre
  have hown : s.vm.findClass RL = some m.cls := findClass_of_methodNamed B.named
  have hlocks := B.notSynchronized
  have htab : c.exceptionTable.toList = tableOf [(0, 129, 130, 41), (0, 129, 135, 43), (0, 129, 140, 45)] := vx_table (x := yL_does) B (hts _ List.mem_cons_self)
  subst hsz
  have hD := hD0.self (sz := s.heap.size)
  have hA : ∀ q : Nat, s.heap.size ≤ q → (va_A ((cA T na mo nm rs D mny nA rA) ++ (cN T (nA j) x2 x3 N f g)) s.heap.size) q := fun q h => Or.inr h
  have hS : va_S (va_A ((cA T na mo nm rs D mny nA rA) ++ (cN T (nA j) x2 x3 N f g)) s.heap.size) s.heap s.heap [] := va_S.rf
  have hl := lv_entry ([.ref na, .int 1, .int p0, .int p1, .int p2]) (n := 6) (Nat.le_of_ble_eq_true rfl)
  rw [lg_entry_eq]
  generalize (lg_sl ([.ref na, .int 1, .int p0, .int p1, .int p2]) ++ List.replicate (6 - (lg_sl ([.ref na, .int 1, .int p0, .int p1, .int p2])).length) Slot.unset).toArray = ls at hl ⊢
  have hl : lv_has ls 6 [(0, .ref na), (1, .int 1), (2, .int p0), (3, .int p1), (4, .int p2)] := hl
  have hP : va_P G vwCl ((cA T na mo nm rs D mny nA rA) ++ (cN T (nA j) x2 x3 N f g)) s.heap := hP
  refine lv_iload_n hx hb dL_does_0 rfl (lv_at hl 1 rfl) ?_
  refine lv_if_ne (tgt := 13) hx hb dL_does_1 (by decide) (fun c1 => ?_) (fun c1 => ?_)
  · skip
    refine lv_iload_n hx hb dL_does_13 rfl (lv_at hl 1 rfl) ?_
    refine lv_iconst (v := 1) hx hb dL_does_14 (by decide) ?_
    refine lv_icmp_ne (tgt := 29) hx hb dL_does_15 (by decide) (fun c15 => ?_) (fun c15 => ?_)
    · exact absurd c15 (by decide)
    · skip
      refine lv_aload_n hx hb dL_does_18 rfl (lv_at hl 0 rfl) ?_
      refine lv_iload_n hx hb dL_does_19 rfl (lv_at hl 2 rfl) ?_
      refine lv_iload_n hx hb dL_does_20 rfl (lv_at hl 3 rfl) ?_
      refine lv_iload hx hb dL_does_21 (lv_at hl 4 rfl) ?_
      refine gxi (vx_runV (As := [.int p0, .int p1, .int p2]) (rest := []) ⟨hx, hb, hml, hown, hts⟩ (kX2_bid l hl0 G T na mo nm rs D mny nA rA j x2 x3 N f g p0 p1 p2 i _ hi hj) (cwV 3 hts gL_does_X2_bid rfl rfl rfl (by decide +kernel) ⟨Nat.le_of_ble_eq_true rfl, Nat.le_of_ble_eq_true rfl⟩) ⟨gblind, va_recv hK hP (ci := 2) (q0 := 0) rfl rfl, gpre hE hK hP hD hS hA [0, 1, 2, 3, 4, 5, 6] rfl rfl⟩ rfl rfl hl.1 rfl (lv_room (Nat.le_of_ble_eq_true rfl)) dL_does_23 ⟨Nat.le_of_ble_eq_true rfl, Nat.le_of_ble_eq_true rfl⟩) hP hD hS hA [0, 1, 2, 3, 4, 5, 6] rfl rfl (fun E9 ce9 q9 H locs he hP hD hS hce hcv hcl => ?_) (fun r9 H locs hw hP hD hS => ?_)
      · skip
        have hP : va_P G vwCl ((cA T na mo nm rs D mny nA rA) ++ (cN T (nA j) x2 x3 N f g)) H := hP
        have hD : va_D (va_A ((cA T na mo nm rs D mny nA rA) ++ (cN T (nA j) x2 x3 N f g)) s.heap.size) ((cA T na mo nm rs D mny nA rA) ++ (cN T (nA j) x2 x3 N f g)) := hD
        rcases he with ⟨hk9, rfl⟩ | ⟨hk9, rfl⟩ | ⟨hk9, rfl⟩
        · skip
          refine vx_catch (own := RL) (name := "java/lang/IndexOutOfBoundsException") hown [] ⟨0, 129, 130, 41⟩ [⟨0, 129, 135, 43⟩, ⟨0, 129, 140, 45⟩] (htab.trans rfl) (fun z hz => nomatch hz) rfl (by decide) (hts (.classLink RL 41 "java/lang/IndexOutOfBoundsException") (by decide +kernel)) (va_Nw.use rfl (hE.1 (.castable "java/lang/IndexOutOfBoundsException" "java/lang/IndexOutOfBoundsException") (by decide +kernel))) hce hcv hcl ?_
          refine lv_astore (lv' := [(5, .ref q9), (0, .ref na), (1, .int 1), (2, .int p0), (3, .int p1), (4, .int p2)]) hx hb dL_does_130 hl (by decide) rfl (fun ls hl => ?_)
          refine lv_bipush (v := (-30)) hx hb dL_does_132 (by decide) ?_
          exact W.iret (v := (-30)) hx hb hr (fun t ht9 hW => ⟨⟨(-30), (), rfl, by rw [hk9]; rfl, gBi ht9 (gfin hP (rfl))⟩, hS.F ht9⟩) hS.2.2 dL_does_134
        · skip
          refine vx_catch (own := RL) (name := "java/lang/IllegalArgumentException") hown [⟨0, 129, 130, 41⟩] ⟨0, 129, 135, 43⟩ [⟨0, 129, 140, 45⟩] (htab.trans rfl) (fun z hz => by cases List.mem_singleton.mp hz; exact Or.inr ⟨by decide, "java/lang/IndexOutOfBoundsException", hts (.classLink RL 41 "java/lang/IndexOutOfBoundsException") (by decide +kernel), hE.2.1.1⟩) rfl (by decide) (hts (.classLink RL 43 "java/lang/IllegalArgumentException") (by decide +kernel)) (va_Nw.use rfl (hE.1 (.castable "java/lang/IllegalArgumentException" "java/lang/IllegalArgumentException") (by decide +kernel))) hce hcv hcl ?_
          refine lv_astore (lv' := [(5, .ref q9), (0, .ref na), (1, .int 1), (2, .int p0), (3, .int p1), (4, .int p2)]) hx hb dL_does_135 hl (by decide) rfl (fun ls hl => ?_)
          refine lv_bipush (v := (-20)) hx hb dL_does_137 (by decide) ?_
          exact W.iret (v := (-20)) hx hb hr (fun t ht9 hW => ⟨⟨(-20), (), rfl, by rw [hk9]; rfl, gBi ht9 (gfin hP (rfl))⟩, hS.F ht9⟩) hS.2.2 dL_does_139
        · skip
          refine vx_catch (own := RL) (name := "java/lang/IllegalStateException") hown [⟨0, 129, 130, 41⟩, ⟨0, 129, 135, 43⟩] ⟨0, 129, 140, 45⟩ [] (htab.trans rfl) (fun z hz => by rcases List.mem_cons.mp hz with rfl | hz; exact Or.inr ⟨by decide, "java/lang/IndexOutOfBoundsException", hts (.classLink RL 41 "java/lang/IndexOutOfBoundsException") (by decide +kernel), hE.2.1.2.1⟩; cases List.mem_singleton.mp hz; exact Or.inr ⟨by decide, "java/lang/IllegalArgumentException", hts (.classLink RL 43 "java/lang/IllegalArgumentException") (by decide +kernel), hE.2.1.2.2⟩) rfl (by decide) (hts (.classLink RL 45 "java/lang/IllegalStateException") (by decide +kernel)) (va_Nw.use rfl (hE.1 (.castable "java/lang/IllegalStateException" "java/lang/IllegalStateException") (by decide +kernel))) hce hcv hcl ?_
          refine lv_astore (lv' := [(5, .ref q9), (0, .ref na), (1, .int 1), (2, .int p0), (3, .int p1), (4, .int p2)]) hx hb dL_does_140 hl (by decide) rfl (fun ls hl => ?_)
          refine lv_bipush (v := (-10)) hx hb dL_does_142 (by decide) ?_
          exact W.iret (v := (-10)) hx hb hr (fun t ht9 hW => ⟨⟨(-10), (), rfl, by rw [hk9]; rfl, gBi ht9 (gfin hP (rfl))⟩, hS.F ht9⟩) hS.2.2 dL_does_144
      · skip
        have hP : va_P G vwCl ((cA T na mo nm rs (upd D 5 (D 5 + 1)) mny nA rA) ++ (cN T (nA j) x2 x3 (sBidN N D) (upd f i p2) (upd g i (D 5 + 1)))) H := hP
        have hD : va_D (va_A ((cA T na mo nm rs D mny nA rA) ++ (cN T (nA j) x2 x3 N f g)) s.heap.size) ((cA T na mo nm rs (upd D 5 (D 5 + 1)) mny nA rA) ++ (cN T (nA j) x2 x3 (sBidN N D) (upd f i p2) (upd g i (D 5 + 1)))) := hD
        exact absurd hw.1 hk
  · exact absurd c1 (by decide)
abbrev PL_does_2_ok (G : va_G) (T : Nat → ClassId) (na mo nm rs : Nat) (D mny : Nat → Int32) (nA rA : Nat → Nat) (j x2 x3 : Nat) (N f g : Nat → Int32) (p0 p1 : Int32) (z2 : Int32) (sz : Nat) : Array Value → State → Prop := gPc G T [.ref na, .int 2, .int p0, .int p1, .int z2] ((cA T na mo nm rs D mny nA rA) ++ (cN T (nA j) x2 x3 N f g)) sz
abbrev QL_does_2_ok (G : va_G) (T : Nat → ClassId) (na mo nm rs : Nat) (D mny : Nat → Int32) (nA rA : Nat → Nat) (j x2 x3 : Nat) (N f g : Nat → Int32) (p0 p1 : Int32) (z2 : Int32) (sz : Nat) : Array Value → State → Outcome → State → Prop := va_Qi (fun (r : Int32) (_ : Unit) => r = N 3 + p1 * 100) (gB G ((cA T na mo nm rs (sPayD D mny (N 1) (p1 * 20)) (sPayF mny (N 1) (p1 * 20)) nA rA) ++ (cN T (nA j) x2 x3 (upd (upd N 3 (N 3 + p1 * 100)) 0 2) f g))) (va_A ((cA T na mo nm rs D mny nA rA) ++ (cN T (nA j) x2 x3 N f g)) sz)
set_option maxHeartbeats 4000000 in
set_option maxRecDepth 100000 in
theorem kL_does_2_ok (l : Launch) (hl0 : l.stackTraces = false) (G : va_G) (T : Nat → ClassId) (na mo nm rs : Nat) (D mny : Nat → Int32) (nA rA : Nat → Nat) (j x2 x3 : Nat) (N f g : Nat → Int32) (p0 p1 : Int32) (z2 : Int32) (sz : Nat) (hj : okI p0 16 = true → p0 = nI j ∧ j < 16) (hk : (kRenew D mny N p0 p1) = 0) : Met l yL_does wsL_does ({ frames := 8, cells := 3, slots := 18, locals := 128 } : Room) (PL_does_2_ok G T na mo nm rs D mny nA rA j x2 x3 N f g p0 p1 z2 sz) (QL_does_2_ok G T na mo nm rs D mny nA rA j x2 x3 N f g p0 p1 z2 sz) 3 18 (va_A ((cA T na mo nm rs D mny nA rA) ++ (cN T (nA j) x2 x3 N f g)) sz) := by
  refine va_MetW (cc := cL_does) (maxL := 6) (ret := (some .int)) (hh := [(0, 129, 130, 41), (0, 129, 135, 43), (0, 129, 140, 45)]) (by decide) rfl ?_
  intro p e s m args below meth c s₁ B hml hv
  obtain ⟨rfl, hsz, hP, hK, hD0, hE⟩ := hv
  have hx := B.exec
  have hb := B.bytes
  have hr := B.returns
  have hts := atoms_spec (ws := wsL_does) B.pre
  have hown : s.vm.findClass RL = some m.cls := findClass_of_methodNamed B.named
  have hlocks := B.notSynchronized
  have htab : c.exceptionTable.toList = tableOf [(0, 129, 130, 41), (0, 129, 135, 43), (0, 129, 140, 45)] := vx_table (x := yL_does) B (hts _ List.mem_cons_self)
  subst hsz
  have hD := hD0.self (sz := s.heap.size)
  have hA : ∀ q : Nat, s.heap.size ≤ q → (va_A ((cA T na mo nm rs D mny nA rA) ++ (cN T (nA j) x2 x3 N f g)) s.heap.size) q := fun q h => Or.inr h
  have hS : va_S (va_A ((cA T na mo nm rs D mny nA rA) ++ (cN T (nA j) x2 x3 N f g)) s.heap.size) s.heap s.heap [] := va_S.rf
  have hl := lv_entry ([.ref na, .int 2, .int p0, .int p1, .int z2]) (n := 6) (Nat.le_of_ble_eq_true rfl)
  rw [lg_entry_eq]
  generalize (lg_sl ([.ref na, .int 2, .int p0, .int p1, .int z2]) ++ List.replicate (6 - (lg_sl ([.ref na, .int 2, .int p0, .int p1, .int z2])).length) Slot.unset).toArray = ls at hl ⊢
  have hl : lv_has ls 6 [(0, .ref na), (1, .int 2), (2, .int p0), (3, .int p1), (4, .int z2)] := hl
  have hP : va_P G vwCl ((cA T na mo nm rs D mny nA rA) ++ (cN T (nA j) x2 x3 N f g)) s.heap := hP
  refine lv_iload_n hx hb dL_does_0 rfl (lv_at hl 1 rfl) ?_
  refine lv_if_ne (tgt := 13) hx hb dL_does_1 (by decide) (fun c1 => ?_) (fun c1 => ?_)
  · skip
    refine lv_iload_n hx hb dL_does_13 rfl (lv_at hl 1 rfl) ?_
    refine lv_iconst (v := 1) hx hb dL_does_14 (by decide) ?_
    refine lv_icmp_ne (tgt := 29) hx hb dL_does_15 (by decide) (fun c15 => ?_) (fun c15 => ?_)
    · skip
      refine lv_iload_n hx hb dL_does_29 rfl (lv_at hl 1 rfl) ?_
      refine lv_iconst (v := 2) hx hb dL_does_30 (by decide) ?_
      refine lv_icmp_ne (tgt := 43) hx hb dL_does_31 (by decide) (fun c31 => ?_) (fun c31 => ?_)
      · exact absurd c31 (by decide)
      · skip
        refine lv_aload_n hx hb dL_does_34 rfl (lv_at hl 0 rfl) ?_
        refine lv_iload_n hx hb dL_does_35 rfl (lv_at hl 2 rfl) ?_
        refine lv_iload_n hx hb dL_does_36 rfl (lv_at hl 3 rfl) ?_
        refine gxi (vx_runV (As := [.int p0, .int p1]) (rest := []) ⟨hx, hb, hml, hown, hts⟩ (kX2_renew l hl0 G T na mo nm rs D mny nA rA j x2 x3 N f g p0 p1 _ hj) (cwV 2 hts gL_does_X2_renew rfl rfl rfl (by decide +kernel) ⟨Nat.le_of_ble_eq_true rfl, Nat.le_of_ble_eq_true rfl⟩) ⟨gblind, va_recv hK hP (ci := 2) (q0 := 0) rfl rfl, gpre hE hK hP hD hS hA [0, 1, 2, 3, 4, 5, 6] rfl rfl⟩ rfl rfl hl.1 rfl (lv_room (Nat.le_of_ble_eq_true rfl)) dL_does_37 ⟨Nat.le_of_ble_eq_true rfl, Nat.le_of_ble_eq_true rfl⟩) hP hD hS hA [0, 1, 2, 3, 4, 5, 6] rfl rfl (fun E9 ce9 q9 H locs he hP hD hS hce hcv hcl => ?_) (fun r9 H locs hw hP hD hS => ?_)
        · skip
          have hP : va_P G vwCl ((cA T na mo nm rs D mny nA rA) ++ (cN T (nA j) x2 x3 N f g)) H := hP
          have hD : va_D (va_A ((cA T na mo nm rs D mny nA rA) ++ (cN T (nA j) x2 x3 N f g)) s.heap.size) ((cA T na mo nm rs D mny nA rA) ++ (cN T (nA j) x2 x3 N f g)) := hD
          rcases he with ⟨hk9, rfl⟩ | ⟨hk9, rfl⟩ | ⟨hk9, rfl⟩
          · skip
            exact absurd (hk.symm.trans hk9) (by decide)
          · skip
            exact absurd (hk.symm.trans hk9) (by decide)
          · skip
            exact absurd (hk.symm.trans hk9) (by decide)
        · skip
          have hP : va_P G vwCl ((cA T na mo nm rs (sPayD D mny (N 1) (p1 * 20)) (sPayF mny (N 1) (p1 * 20)) nA rA) ++ (cN T (nA j) x2 x3 (upd (upd N 3 (N 3 + p1 * 100)) 0 2) f g)) H := hP
          have hD : va_D (va_A ((cA T na mo nm rs D mny nA rA) ++ (cN T (nA j) x2 x3 N f g)) s.heap.size) ((cA T na mo nm rs (sPayD D mny (N 1) (p1 * 20)) (sPayF mny (N 1) (p1 * 20)) nA rA) ++ (cN T (nA j) x2 x3 (upd (upd N 3 (N 3 + p1 * 100)) 0 2) f g)) := hD
          obtain ⟨hok37, hw⟩ := hw
          subst hw
          refine lv_goto (tgt := 129) hx hb dL_does_40 (by decide) ?_
          exact W.iret (v := N 3 + p1 * 100) hx hb hr (fun t ht9 hW => ⟨⟨N 3 + p1 * 100, (), rfl, rfl, gBi ht9 (gfin hP (rfl))⟩, hS.F ht9⟩) hS.2.2 dL_does_129
    · exact absurd c15 (by decide)
  · exact absurd c1 (by decide)
abbrev PL_does_2_no (G : va_G) (T : Nat → ClassId) (na mo nm rs : Nat) (D mny : Nat → Int32) (nA rA : Nat → Nat) (j x2 x3 : Nat) (N f g : Nat → Int32) (p0 p1 : Int32) (z2 : Int32) (sz : Nat) : Array Value → State → Prop := gPc G T [.ref na, .int 2, .int p0, .int p1, .int z2] ((cA T na mo nm rs D mny nA rA) ++ (cN T (nA j) x2 x3 N f g)) sz
abbrev QL_does_2_no (G : va_G) (T : Nat → ClassId) (na mo nm rs : Nat) (D mny : Nat → Int32) (nA rA : Nat → Nat) (j x2 x3 : Nat) (N f g : Nat → Int32) (p0 p1 : Int32) (z2 : Int32) (sz : Nat) : Array Value → State → Outcome → State → Prop := va_Qi (fun (r : Int32) (_ : Unit) => r = wD (kRenew D mny N p0 p1)) (gB G ((cA T na mo nm rs D mny nA rA) ++ (cN T (nA j) x2 x3 N f g))) (va_A ((cA T na mo nm rs D mny nA rA) ++ (cN T (nA j) x2 x3 N f g)) sz)
set_option maxHeartbeats 4000000 in
set_option maxRecDepth 100000 in
theorem kL_does_2_no (l : Launch) (hl0 : l.stackTraces = false) (G : va_G) (T : Nat → ClassId) (na mo nm rs : Nat) (D mny : Nat → Int32) (nA rA : Nat → Nat) (j x2 x3 : Nat) (N f g : Nat → Int32) (p0 p1 : Int32) (z2 : Int32) (sz : Nat) (hj : okI p0 16 = true → p0 = nI j ∧ j < 16) (hk : ¬ (kRenew D mny N p0 p1) = 0) : Met l yL_does wsL_does ({ frames := 8, cells := 3, slots := 18, locals := 128 } : Room) (PL_does_2_no G T na mo nm rs D mny nA rA j x2 x3 N f g p0 p1 z2 sz) (QL_does_2_no G T na mo nm rs D mny nA rA j x2 x3 N f g p0 p1 z2 sz) 3 18 (va_A ((cA T na mo nm rs D mny nA rA) ++ (cN T (nA j) x2 x3 N f g)) sz) := by
  refine va_MetW (cc := cL_does) (maxL := 6) (ret := (some .int)) (hh := [(0, 129, 130, 41), (0, 129, 135, 43), (0, 129, 140, 45)]) (by decide) rfl ?_
  intro p e s m args below meth c s₁ B hml hv
  obtain ⟨rfl, hsz, hP, hK, hD0, hE⟩ := hv
  have hx := B.exec
  have hb := B.bytes
  have hr := B.returns
  have hts := atoms_spec (ws := wsL_does) B.pre
  have hown : s.vm.findClass RL = some m.cls := findClass_of_methodNamed B.named
  have hlocks := B.notSynchronized
  have htab : c.exceptionTable.toList = tableOf [(0, 129, 130, 41), (0, 129, 135, 43), (0, 129, 140, 45)] := vx_table (x := yL_does) B (hts _ List.mem_cons_self)
  subst hsz
  have hD := hD0.self (sz := s.heap.size)
  have hA : ∀ q : Nat, s.heap.size ≤ q → (va_A ((cA T na mo nm rs D mny nA rA) ++ (cN T (nA j) x2 x3 N f g)) s.heap.size) q := fun q h => Or.inr h
  have hS : va_S (va_A ((cA T na mo nm rs D mny nA rA) ++ (cN T (nA j) x2 x3 N f g)) s.heap.size) s.heap s.heap [] := va_S.rf
  have hl := lv_entry ([.ref na, .int 2, .int p0, .int p1, .int z2]) (n := 6) (Nat.le_of_ble_eq_true rfl)
  rw [lg_entry_eq]
  generalize (lg_sl ([.ref na, .int 2, .int p0, .int p1, .int z2]) ++ List.replicate (6 - (lg_sl ([.ref na, .int 2, .int p0, .int p1, .int z2])).length) Slot.unset).toArray = ls at hl ⊢
  have hl : lv_has ls 6 [(0, .ref na), (1, .int 2), (2, .int p0), (3, .int p1), (4, .int z2)] := hl
  have hP : va_P G vwCl ((cA T na mo nm rs D mny nA rA) ++ (cN T (nA j) x2 x3 N f g)) s.heap := hP
  refine lv_iload_n hx hb dL_does_0 rfl (lv_at hl 1 rfl) ?_
  refine lv_if_ne (tgt := 13) hx hb dL_does_1 (by decide) (fun c1 => ?_) (fun c1 => ?_)
  · skip
    refine lv_iload_n hx hb dL_does_13 rfl (lv_at hl 1 rfl) ?_
    refine lv_iconst (v := 1) hx hb dL_does_14 (by decide) ?_
    refine lv_icmp_ne (tgt := 29) hx hb dL_does_15 (by decide) (fun c15 => ?_) (fun c15 => ?_)
    · skip
      refine lv_iload_n hx hb dL_does_29 rfl (lv_at hl 1 rfl) ?_
      refine lv_iconst (v := 2) hx hb dL_does_30 (by decide) ?_
      refine lv_icmp_ne (tgt := 43) hx hb dL_does_31 (by decide) (fun c31 => ?_) (fun c31 => ?_)
      · exact absurd c31 (by decide)
      · skip
        refine lv_aload_n hx hb dL_does_34 rfl (lv_at hl 0 rfl) ?_
        refine lv_iload_n hx hb dL_does_35 rfl (lv_at hl 2 rfl) ?_
        refine lv_iload_n hx hb dL_does_36 rfl (lv_at hl 3 rfl) ?_
        refine gxi (vx_runV (As := [.int p0, .int p1]) (rest := []) ⟨hx, hb, hml, hown, hts⟩ (kX2_renew l hl0 G T na mo nm rs D mny nA rA j x2 x3 N f g p0 p1 _ hj) (cwV 2 hts gL_does_X2_renew rfl rfl rfl (by decide +kernel) ⟨Nat.le_of_ble_eq_true rfl, Nat.le_of_ble_eq_true rfl⟩) ⟨gblind, va_recv hK hP (ci := 2) (q0 := 0) rfl rfl, gpre hE hK hP hD hS hA [0, 1, 2, 3, 4, 5, 6] rfl rfl⟩ rfl rfl hl.1 rfl (lv_room (Nat.le_of_ble_eq_true rfl)) dL_does_37 ⟨Nat.le_of_ble_eq_true rfl, Nat.le_of_ble_eq_true rfl⟩) hP hD hS hA [0, 1, 2, 3, 4, 5, 6] rfl rfl (fun E9 ce9 q9 H locs he hP hD hS hce hcv hcl => ?_) (fun r9 H locs hw hP hD hS => ?_)
        · skip
          have hP : va_P G vwCl ((cA T na mo nm rs D mny nA rA) ++ (cN T (nA j) x2 x3 N f g)) H := hP
          have hD : va_D (va_A ((cA T na mo nm rs D mny nA rA) ++ (cN T (nA j) x2 x3 N f g)) s.heap.size) ((cA T na mo nm rs D mny nA rA) ++ (cN T (nA j) x2 x3 N f g)) := hD
          rcases he with ⟨hk9, rfl⟩ | ⟨hk9, rfl⟩ | ⟨hk9, rfl⟩
          · skip
            refine vx_catch (own := RL) (name := "java/lang/IndexOutOfBoundsException") hown [] ⟨0, 129, 130, 41⟩ [⟨0, 129, 135, 43⟩, ⟨0, 129, 140, 45⟩] (htab.trans rfl) (fun z hz => nomatch hz) rfl (by decide) (hts (.classLink RL 41 "java/lang/IndexOutOfBoundsException") (by decide +kernel)) (va_Nw.use rfl (hE.1 (.castable "java/lang/IndexOutOfBoundsException" "java/lang/IndexOutOfBoundsException") (by decide +kernel))) hce hcv hcl ?_
            refine lv_astore (lv' := [(5, .ref q9), (0, .ref na), (1, .int 2), (2, .int p0), (3, .int p1), (4, .int z2)]) hx hb dL_does_130 hl (by decide) rfl (fun ls hl => ?_)
            refine lv_bipush (v := (-30)) hx hb dL_does_132 (by decide) ?_
            exact W.iret (v := (-30)) hx hb hr (fun t ht9 hW => ⟨⟨(-30), (), rfl, by rw [hk9]; rfl, gBi ht9 (gfin hP (rfl))⟩, hS.F ht9⟩) hS.2.2 dL_does_134
          · skip
            refine vx_catch (own := RL) (name := "java/lang/IllegalArgumentException") hown [⟨0, 129, 130, 41⟩] ⟨0, 129, 135, 43⟩ [⟨0, 129, 140, 45⟩] (htab.trans rfl) (fun z hz => by cases List.mem_singleton.mp hz; exact Or.inr ⟨by decide, "java/lang/IndexOutOfBoundsException", hts (.classLink RL 41 "java/lang/IndexOutOfBoundsException") (by decide +kernel), hE.2.1.1⟩) rfl (by decide) (hts (.classLink RL 43 "java/lang/IllegalArgumentException") (by decide +kernel)) (va_Nw.use rfl (hE.1 (.castable "java/lang/IllegalArgumentException" "java/lang/IllegalArgumentException") (by decide +kernel))) hce hcv hcl ?_
            refine lv_astore (lv' := [(5, .ref q9), (0, .ref na), (1, .int 2), (2, .int p0), (3, .int p1), (4, .int z2)]) hx hb dL_does_135 hl (by decide) rfl (fun ls hl => ?_)
            refine lv_bipush (v := (-20)) hx hb dL_does_137 (by decide) ?_
            exact W.iret (v := (-20)) hx hb hr (fun t ht9 hW => ⟨⟨(-20), (), rfl, by rw [hk9]; rfl, gBi ht9 (gfin hP (rfl))⟩, hS.F ht9⟩) hS.2.2 dL_does_139
          · skip
            refine vx_catch (own := RL) (name := "java/lang/IllegalStateException") hown [⟨0, 129, 130, 41⟩, ⟨0, 129, 135, 43⟩] ⟨0, 129, 140, 45⟩ [] (htab.trans rfl) (fun z hz => by rcases List.mem_cons.mp hz with rfl | hz; exact Or.inr ⟨by decide, "java/lang/IndexOutOfBoundsException", hts (.classLink RL 41 "java/lang/IndexOutOfBoundsException") (by decide +kernel), hE.2.1.2.1⟩; cases List.mem_singleton.mp hz; exact Or.inr ⟨by decide, "java/lang/IllegalArgumentException", hts (.classLink RL 43 "java/lang/IllegalArgumentException") (by decide +kernel), hE.2.1.2.2⟩) rfl (by decide) (hts (.classLink RL 45 "java/lang/IllegalStateException") (by decide +kernel)) (va_Nw.use rfl (hE.1 (.castable "java/lang/IllegalStateException" "java/lang/IllegalStateException") (by decide +kernel))) hce hcv hcl ?_
            refine lv_astore (lv' := [(5, .ref q9), (0, .ref na), (1, .int 2), (2, .int p0), (3, .int p1), (4, .int z2)]) hx hb dL_does_140 hl (by decide) rfl (fun ls hl => ?_)
            refine lv_bipush (v := (-10)) hx hb dL_does_142 (by decide) ?_
            exact W.iret (v := (-10)) hx hb hr (fun t ht9 hW => ⟨⟨(-10), (), rfl, by rw [hk9]; rfl, gBi ht9 (gfin hP (rfl))⟩, hS.F ht9⟩) hS.2.2 dL_does_144
        · skip
          have hP : va_P G vwCl ((cA T na mo nm rs (sPayD D mny (N 1) (p1 * 20)) (sPayF mny (N 1) (p1 * 20)) nA rA) ++ (cN T (nA j) x2 x3 (upd (upd N 3 (N 3 + p1 * 100)) 0 2) f g)) H := hP
          have hD : va_D (va_A ((cA T na mo nm rs D mny nA rA) ++ (cN T (nA j) x2 x3 N f g)) s.heap.size) ((cA T na mo nm rs (sPayD D mny (N 1) (p1 * 20)) (sPayF mny (N 1) (p1 * 20)) nA rA) ++ (cN T (nA j) x2 x3 (upd (upd N 3 (N 3 + p1 * 100)) 0 2) f g)) := hD
          exact absurd hw.1 hk
    · exact absurd c15 (by decide)
  · exact absurd c1 (by decide)
abbrev PL_does_3_ok (G : va_G) (T : Nat → ClassId) (na mo nm rs : Nat) (D mny : Nat → Int32) (nA rA : Nat → Nat) (j x2 x3 : Nat) (N f g : Nat → Int32) (p0 : Int32) (z1 z2 : Int32) (sz : Nat) : Array Value → State → Prop := gPc G T [.ref na, .int 3, .int p0, .int z1, .int z2] ((cA T na mo nm rs D mny nA rA) ++ (cN T (nA j) x2 x3 N f g)) sz
abbrev QL_does_3_ok (G : va_G) (T : Nat → ClassId) (na mo nm rs : Nat) (D mny : Nat → Int32) (nA rA : Nat → Nat) (j x2 x3 : Nat) (N f g : Nat → Int32) (p0 : Int32) (z1 z2 : Int32) (sz : Nat) : Array Value → State → Outcome → State → Prop := va_Qi (fun (r : Int32) (_ : Unit) => r = sPayD D mny (N 1) 50 3 + 100) (gB G ((cA T na mo nm rs (sPayD D mny (N 1) 50) (sPayF mny (N 1) 50) nA rA) ++ (cN T (nA j) x2 x3 (upd (upd (upd (upd (upd N 0 2) 1 (N 1)) 3 ((sPayD D mny (N 1) 50) 3 + 100)) 4 0) 5 10) (fun _ => 0) g))) (va_A ((cA T na mo nm rs D mny nA rA) ++ (cN T (nA j) x2 x3 N f g)) sz)
set_option maxHeartbeats 4000000 in
set_option maxRecDepth 100000 in
theorem kL_does_3_ok (l : Launch) (hl0 : l.stackTraces = false) (G : va_G) (T : Nat → ClassId) (na mo nm rs : Nat) (D mny : Nat → Int32) (nA rA : Nat → Nat) (j x2 x3 : Nat) (N f g : Nat → Int32) (p0 : Int32) (z1 z2 : Int32) (sz : Nat) (hj : okI p0 16 = true → p0 = nI j ∧ j < 16) (hk : (kRedeem mny N p0) = 0) : Met l yL_does wsL_does ({ frames := 8, cells := 2, slots := 12, locals := 124 } : Room) (PL_does_3_ok G T na mo nm rs D mny nA rA j x2 x3 N f g p0 z1 z2 sz) (QL_does_3_ok G T na mo nm rs D mny nA rA j x2 x3 N f g p0 z1 z2 sz) 2 12 (va_A ((cA T na mo nm rs D mny nA rA) ++ (cN T (nA j) x2 x3 N f g)) sz) := by
  refine va_MetW (cc := cL_does) (maxL := 6) (ret := (some .int)) (hh := [(0, 129, 130, 41), (0, 129, 135, 43), (0, 129, 140, 45)]) (by decide) rfl ?_
  intro p e s m args below meth c s₁ B hml hv
  obtain ⟨rfl, hsz, hP, hK, hD0, hE⟩ := hv
  have hx := B.exec
  have hb := B.bytes
  have hr := B.returns
  have hts := atoms_spec (ws := wsL_does) B.pre
  have hown : s.vm.findClass RL = some m.cls := findClass_of_methodNamed B.named
  have hlocks := B.notSynchronized
  have htab : c.exceptionTable.toList = tableOf [(0, 129, 130, 41), (0, 129, 135, 43), (0, 129, 140, 45)] := vx_table (x := yL_does) B (hts _ List.mem_cons_self)
  subst hsz
  have hD := hD0.self (sz := s.heap.size)
  have hA : ∀ q : Nat, s.heap.size ≤ q → (va_A ((cA T na mo nm rs D mny nA rA) ++ (cN T (nA j) x2 x3 N f g)) s.heap.size) q := fun q h => Or.inr h
  have hS : va_S (va_A ((cA T na mo nm rs D mny nA rA) ++ (cN T (nA j) x2 x3 N f g)) s.heap.size) s.heap s.heap [] := va_S.rf
  have hl := lv_entry ([.ref na, .int 3, .int p0, .int z1, .int z2]) (n := 6) (Nat.le_of_ble_eq_true rfl)
  rw [lg_entry_eq]
  generalize (lg_sl ([.ref na, .int 3, .int p0, .int z1, .int z2]) ++ List.replicate (6 - (lg_sl ([.ref na, .int 3, .int p0, .int z1, .int z2])).length) Slot.unset).toArray = ls at hl ⊢
  have hl : lv_has ls 6 [(0, .ref na), (1, .int 3), (2, .int p0), (3, .int z1), (4, .int z2)] := hl
  have hP : va_P G vwCl ((cA T na mo nm rs D mny nA rA) ++ (cN T (nA j) x2 x3 N f g)) s.heap := hP
  refine lv_iload_n hx hb dL_does_0 rfl (lv_at hl 1 rfl) ?_
  refine lv_if_ne (tgt := 13) hx hb dL_does_1 (by decide) (fun c1 => ?_) (fun c1 => ?_)
  · skip
    refine lv_iload_n hx hb dL_does_13 rfl (lv_at hl 1 rfl) ?_
    refine lv_iconst (v := 1) hx hb dL_does_14 (by decide) ?_
    refine lv_icmp_ne (tgt := 29) hx hb dL_does_15 (by decide) (fun c15 => ?_) (fun c15 => ?_)
    · skip
      refine lv_iload_n hx hb dL_does_29 rfl (lv_at hl 1 rfl) ?_
      refine lv_iconst (v := 2) hx hb dL_does_30 (by decide) ?_
      refine lv_icmp_ne (tgt := 43) hx hb dL_does_31 (by decide) (fun c31 => ?_) (fun c31 => ?_)
      · skip
        refine lv_iload_n hx hb dL_does_43 rfl (lv_at hl 1 rfl) ?_
        refine lv_iconst (v := 3) hx hb dL_does_44 (by decide) ?_
        refine lv_icmp_ne (tgt := 56) hx hb dL_does_45 (by decide) (fun c45 => ?_) (fun c45 => ?_)
        · exact absurd c45 (by decide)
        · skip
          refine lv_aload_n hx hb dL_does_48 rfl (lv_at hl 0 rfl) ?_
          refine lv_iload_n hx hb dL_does_49 rfl (lv_at hl 2 rfl) ?_
          refine gxi (vx_runV (As := [.int p0]) (rest := []) ⟨hx, hb, hml, hown, hts⟩ (kX2_redeem l hl0 G T na mo nm rs D mny nA rA j x2 x3 N f g p0 _ hj) (cwV 1 hts gL_does_X2_redeem rfl rfl rfl (by decide +kernel) ⟨Nat.le_of_ble_eq_true rfl, Nat.le_of_ble_eq_true rfl⟩) ⟨gblind, va_recv hK hP (ci := 2) (q0 := 0) rfl rfl, gpre hE hK hP hD hS hA [0, 1, 2, 3, 4, 5, 6] rfl rfl⟩ rfl rfl hl.1 rfl (lv_room (Nat.le_of_ble_eq_true rfl)) dL_does_50 ⟨Nat.le_of_ble_eq_true rfl, Nat.le_of_ble_eq_true rfl⟩) hP hD hS hA [0, 1, 2, 3, 4, 5, 6] rfl rfl (fun E9 ce9 q9 H locs he hP hD hS hce hcv hcl => ?_) (fun r9 H locs hw hP hD hS => ?_)
          · skip
            have hP : va_P G vwCl ((cA T na mo nm rs D mny nA rA) ++ (cN T (nA j) x2 x3 N f g)) H := hP
            have hD : va_D (va_A ((cA T na mo nm rs D mny nA rA) ++ (cN T (nA j) x2 x3 N f g)) s.heap.size) ((cA T na mo nm rs D mny nA rA) ++ (cN T (nA j) x2 x3 N f g)) := hD
            rcases he with ⟨hk9, rfl⟩ | ⟨hk9, rfl⟩ | ⟨hk9, rfl⟩
            · skip
              exact absurd (hk.symm.trans hk9) (by decide)
            · skip
              exact absurd (hk.symm.trans hk9) (by decide)
            · skip
              exact absurd (hk.symm.trans hk9) (by decide)
          · skip
            have hP : va_P G vwCl ((cA T na mo nm rs (sPayD D mny (N 1) 50) (sPayF mny (N 1) 50) nA rA) ++ (cN T (nA j) x2 x3 (upd (upd (upd (upd (upd N 0 2) 1 (N 1)) 3 ((sPayD D mny (N 1) 50) 3 + 100)) 4 0) 5 10) (fun _ => 0) g)) H := hP
            have hD : va_D (va_A ((cA T na mo nm rs D mny nA rA) ++ (cN T (nA j) x2 x3 N f g)) s.heap.size) ((cA T na mo nm rs (sPayD D mny (N 1) 50) (sPayF mny (N 1) 50) nA rA) ++ (cN T (nA j) x2 x3 (upd (upd (upd (upd (upd N 0 2) 1 (N 1)) 3 ((sPayD D mny (N 1) 50) 3 + 100)) 4 0) 5 10) (fun _ => 0) g)) := hD
            obtain ⟨hok50, hw⟩ := hw
            subst hw
            refine lv_goto (tgt := 129) hx hb dL_does_53 (by decide) ?_
            exact W.iret (v := sPayD D mny (N 1) 50 3 + 100) hx hb hr (fun t ht9 hW => ⟨⟨sPayD D mny (N 1) 50 3 + 100, (), rfl, rfl, gBi ht9 (gfin hP (rfl))⟩, hS.F ht9⟩) hS.2.2 dL_does_129
      · exact absurd c31 (by decide)
    · exact absurd c15 (by decide)
  · exact absurd c1 (by decide)
abbrev PL_does_3_no (G : va_G) (T : Nat → ClassId) (na mo nm rs : Nat) (D mny : Nat → Int32) (nA rA : Nat → Nat) (j x2 x3 : Nat) (N f g : Nat → Int32) (p0 : Int32) (z1 z2 : Int32) (sz : Nat) : Array Value → State → Prop := gPc G T [.ref na, .int 3, .int p0, .int z1, .int z2] ((cA T na mo nm rs D mny nA rA) ++ (cN T (nA j) x2 x3 N f g)) sz
abbrev QL_does_3_no (G : va_G) (T : Nat → ClassId) (na mo nm rs : Nat) (D mny : Nat → Int32) (nA rA : Nat → Nat) (j x2 x3 : Nat) (N f g : Nat → Int32) (p0 : Int32) (z1 z2 : Int32) (sz : Nat) : Array Value → State → Outcome → State → Prop := va_Qi (fun (r : Int32) (_ : Unit) => r = wD (kRedeem mny N p0)) (gB G ((cA T na mo nm rs D mny nA rA) ++ (cN T (nA j) x2 x3 N f g))) (va_A ((cA T na mo nm rs D mny nA rA) ++ (cN T (nA j) x2 x3 N f g)) sz)
set_option maxHeartbeats 4000000 in
set_option maxRecDepth 100000 in
theorem kL_does_3_no (l : Launch) (hl0 : l.stackTraces = false) (G : va_G) (T : Nat → ClassId) (na mo nm rs : Nat) (D mny : Nat → Int32) (nA rA : Nat → Nat) (j x2 x3 : Nat) (N f g : Nat → Int32) (p0 : Int32) (z1 z2 : Int32) (sz : Nat) (hj : okI p0 16 = true → p0 = nI j ∧ j < 16) (hk : ¬ (kRedeem mny N p0) = 0) : Met l yL_does wsL_does ({ frames := 8, cells := 2, slots := 12, locals := 124 } : Room) (PL_does_3_no G T na mo nm rs D mny nA rA j x2 x3 N f g p0 z1 z2 sz) (QL_does_3_no G T na mo nm rs D mny nA rA j x2 x3 N f g p0 z1 z2 sz) 2 12 (va_A ((cA T na mo nm rs D mny nA rA) ++ (cN T (nA j) x2 x3 N f g)) sz) := by
  refine va_MetW (cc := cL_does) (maxL := 6) (ret := (some .int)) (hh := [(0, 129, 130, 41), (0, 129, 135, 43), (0, 129, 140, 45)]) (by decide) rfl ?_
  intro p e s m args below meth c s₁ B hml hv
  obtain ⟨rfl, hsz, hP, hK, hD0, hE⟩ := hv
  have hx := B.exec
  have hb := B.bytes
  have hr := B.returns
  have hts := atoms_spec (ws := wsL_does) B.pre
  have hown : s.vm.findClass RL = some m.cls := findClass_of_methodNamed B.named
  have hlocks := B.notSynchronized
  have htab : c.exceptionTable.toList = tableOf [(0, 129, 130, 41), (0, 129, 135, 43), (0, 129, 140, 45)] := vx_table (x := yL_does) B (hts _ List.mem_cons_self)
  subst hsz
  have hD := hD0.self (sz := s.heap.size)
  have hA : ∀ q : Nat, s.heap.size ≤ q → (va_A ((cA T na mo nm rs D mny nA rA) ++ (cN T (nA j) x2 x3 N f g)) s.heap.size) q := fun q h => Or.inr h
  have hS : va_S (va_A ((cA T na mo nm rs D mny nA rA) ++ (cN T (nA j) x2 x3 N f g)) s.heap.size) s.heap s.heap [] := va_S.rf
  have hl := lv_entry ([.ref na, .int 3, .int p0, .int z1, .int z2]) (n := 6) (Nat.le_of_ble_eq_true rfl)
  rw [lg_entry_eq]
  generalize (lg_sl ([.ref na, .int 3, .int p0, .int z1, .int z2]) ++ List.replicate (6 - (lg_sl ([.ref na, .int 3, .int p0, .int z1, .int z2])).length) Slot.unset).toArray = ls at hl ⊢
  have hl : lv_has ls 6 [(0, .ref na), (1, .int 3), (2, .int p0), (3, .int z1), (4, .int z2)] := hl
  have hP : va_P G vwCl ((cA T na mo nm rs D mny nA rA) ++ (cN T (nA j) x2 x3 N f g)) s.heap := hP
  refine lv_iload_n hx hb dL_does_0 rfl (lv_at hl 1 rfl) ?_
  refine lv_if_ne (tgt := 13) hx hb dL_does_1 (by decide) (fun c1 => ?_) (fun c1 => ?_)
  · skip
    refine lv_iload_n hx hb dL_does_13 rfl (lv_at hl 1 rfl) ?_
    refine lv_iconst (v := 1) hx hb dL_does_14 (by decide) ?_
    refine lv_icmp_ne (tgt := 29) hx hb dL_does_15 (by decide) (fun c15 => ?_) (fun c15 => ?_)
    · skip
      refine lv_iload_n hx hb dL_does_29 rfl (lv_at hl 1 rfl) ?_
      refine lv_iconst (v := 2) hx hb dL_does_30 (by decide) ?_
      refine lv_icmp_ne (tgt := 43) hx hb dL_does_31 (by decide) (fun c31 => ?_) (fun c31 => ?_)
      · skip
        refine lv_iload_n hx hb dL_does_43 rfl (lv_at hl 1 rfl) ?_
        refine lv_iconst (v := 3) hx hb dL_does_44 (by decide) ?_
        refine lv_icmp_ne (tgt := 56) hx hb dL_does_45 (by decide) (fun c45 => ?_) (fun c45 => ?_)
        · exact absurd c45 (by decide)
        · skip
          refine lv_aload_n hx hb dL_does_48 rfl (lv_at hl 0 rfl) ?_
          refine lv_iload_n hx hb dL_does_49 rfl (lv_at hl 2 rfl) ?_
          refine gxi (vx_runV (As := [.int p0]) (rest := []) ⟨hx, hb, hml, hown, hts⟩ (kX2_redeem l hl0 G T na mo nm rs D mny nA rA j x2 x3 N f g p0 _ hj) (cwV 1 hts gL_does_X2_redeem rfl rfl rfl (by decide +kernel) ⟨Nat.le_of_ble_eq_true rfl, Nat.le_of_ble_eq_true rfl⟩) ⟨gblind, va_recv hK hP (ci := 2) (q0 := 0) rfl rfl, gpre hE hK hP hD hS hA [0, 1, 2, 3, 4, 5, 6] rfl rfl⟩ rfl rfl hl.1 rfl (lv_room (Nat.le_of_ble_eq_true rfl)) dL_does_50 ⟨Nat.le_of_ble_eq_true rfl, Nat.le_of_ble_eq_true rfl⟩) hP hD hS hA [0, 1, 2, 3, 4, 5, 6] rfl rfl (fun E9 ce9 q9 H locs he hP hD hS hce hcv hcl => ?_) (fun r9 H locs hw hP hD hS => ?_)
          · skip
            have hP : va_P G vwCl ((cA T na mo nm rs D mny nA rA) ++ (cN T (nA j) x2 x3 N f g)) H := hP
            have hD : va_D (va_A ((cA T na mo nm rs D mny nA rA) ++ (cN T (nA j) x2 x3 N f g)) s.heap.size) ((cA T na mo nm rs D mny nA rA) ++ (cN T (nA j) x2 x3 N f g)) := hD
            rcases he with ⟨hk9, rfl⟩ | ⟨hk9, rfl⟩ | ⟨hk9, rfl⟩
            · skip
              refine vx_catch (own := RL) (name := "java/lang/IndexOutOfBoundsException") hown [] ⟨0, 129, 130, 41⟩ [⟨0, 129, 135, 43⟩, ⟨0, 129, 140, 45⟩] (htab.trans rfl) (fun z hz => nomatch hz) rfl (by decide) (hts (.classLink RL 41 "java/lang/IndexOutOfBoundsException") (by decide +kernel)) (va_Nw.use rfl (hE.1 (.castable "java/lang/IndexOutOfBoundsException" "java/lang/IndexOutOfBoundsException") (by decide +kernel))) hce hcv hcl ?_
              refine lv_astore (lv' := [(5, .ref q9), (0, .ref na), (1, .int 3), (2, .int p0), (3, .int z1), (4, .int z2)]) hx hb dL_does_130 hl (by decide) rfl (fun ls hl => ?_)
              refine lv_bipush (v := (-30)) hx hb dL_does_132 (by decide) ?_
              exact W.iret (v := (-30)) hx hb hr (fun t ht9 hW => ⟨⟨(-30), (), rfl, by rw [hk9]; rfl, gBi ht9 (gfin hP (rfl))⟩, hS.F ht9⟩) hS.2.2 dL_does_134
            · skip
              exact absurd hk9 (by simp only [kRedeem]; repeat (first | split | decide))
            · skip
              refine vx_catch (own := RL) (name := "java/lang/IllegalStateException") hown [⟨0, 129, 130, 41⟩, ⟨0, 129, 135, 43⟩] ⟨0, 129, 140, 45⟩ [] (htab.trans rfl) (fun z hz => by rcases List.mem_cons.mp hz with rfl | hz; exact Or.inr ⟨by decide, "java/lang/IndexOutOfBoundsException", hts (.classLink RL 41 "java/lang/IndexOutOfBoundsException") (by decide +kernel), hE.2.1.2.1⟩; cases List.mem_singleton.mp hz; exact Or.inr ⟨by decide, "java/lang/IllegalArgumentException", hts (.classLink RL 43 "java/lang/IllegalArgumentException") (by decide +kernel), hE.2.1.2.2⟩) rfl (by decide) (hts (.classLink RL 45 "java/lang/IllegalStateException") (by decide +kernel)) (va_Nw.use rfl (hE.1 (.castable "java/lang/IllegalStateException" "java/lang/IllegalStateException") (by decide +kernel))) hce hcv hcl ?_
              refine lv_astore (lv' := [(5, .ref q9), (0, .ref na), (1, .int 3), (2, .int p0), (3, .int z1), (4, .int z2)]) hx hb dL_does_140 hl (by decide) rfl (fun ls hl => ?_)
              refine lv_bipush (v := (-10)) hx hb dL_does_142 (by decide) ?_
              exact W.iret (v := (-10)) hx hb hr (fun t ht9 hW => ⟨⟨(-10), (), rfl, by rw [hk9]; rfl, gBi ht9 (gfin hP (rfl))⟩, hS.F ht9⟩) hS.2.2 dL_does_144
          · skip
            have hP : va_P G vwCl ((cA T na mo nm rs (sPayD D mny (N 1) 50) (sPayF mny (N 1) 50) nA rA) ++ (cN T (nA j) x2 x3 (upd (upd (upd (upd (upd N 0 2) 1 (N 1)) 3 ((sPayD D mny (N 1) 50) 3 + 100)) 4 0) 5 10) (fun _ => 0) g)) H := hP
            have hD : va_D (va_A ((cA T na mo nm rs D mny nA rA) ++ (cN T (nA j) x2 x3 N f g)) s.heap.size) ((cA T na mo nm rs (sPayD D mny (N 1) 50) (sPayF mny (N 1) 50) nA rA) ++ (cN T (nA j) x2 x3 (upd (upd (upd (upd (upd N 0 2) 1 (N 1)) 3 ((sPayD D mny (N 1) 50) 3 + 100)) 4 0) 5 10) (fun _ => 0) g)) := hD
            exact absurd hw.1 hk
      · exact absurd c31 (by decide)
    · exact absurd c15 (by decide)
  · exact absurd c1 (by decide)
abbrev PL_does_4_ok (G : va_G) (T : Nat → ClassId) (na mo nm rs : Nat) (D mny : Nat → Int32) (nA rA : Nat → Nat) (j x2 x3 : Nat) (N f g : Nat → Int32) (p0 p1 p2 : Int32) (sz : Nat) : Array Value → State → Prop := gPc G T [.ref na, .int 4, .int p0, .int p1, .int p2] ((cA T na mo nm rs D mny nA rA) ++ (cN T (nA j) x2 x3 N f g)) sz
abbrev QL_does_4_ok (G : va_G) (T : Nat → ClassId) (na mo nm rs : Nat) (D mny : Nat → Int32) (nA rA : Nat → Nat) (j x2 x3 : Nat) (N f g : Nat → Int32) (p0 p1 p2 : Int32) (sz : Nat) : Array Value → State → Outcome → State → Prop := va_Qi (fun (r : Int32) (_ : Unit) => r = N 4) (gB G ((cA T na mo nm rs D mny nA rA) ++ (cN T (nA j) x2 x3 (upd (upd N 4 p1) 5 p2) f g))) (va_A ((cA T na mo nm rs D mny nA rA) ++ (cN T (nA j) x2 x3 N f g)) sz)
set_option maxHeartbeats 4000000 in
set_option maxRecDepth 100000 in
theorem kL_does_4_ok (l : Launch) (hl0 : l.stackTraces = false) (G : va_G) (T : Nat → ClassId) (na mo nm rs : Nat) (D mny : Nat → Int32) (nA rA : Nat → Nat) (j x2 x3 : Nat) (N f g : Nat → Int32) (p0 p1 p2 : Int32) (sz : Nat) (hj : okI p0 16 = true → p0 = nI j ∧ j < 16) (hk : (kSetRec N p0 p1 p2) = 0) : Met l yL_does wsL_does ({ frames := 8, cells := 4, slots := 24, locals := 128 } : Room) (PL_does_4_ok G T na mo nm rs D mny nA rA j x2 x3 N f g p0 p1 p2 sz) (QL_does_4_ok G T na mo nm rs D mny nA rA j x2 x3 N f g p0 p1 p2 sz) 4 24 (va_A ((cA T na mo nm rs D mny nA rA) ++ (cN T (nA j) x2 x3 N f g)) sz) := by
  refine va_MetW (cc := cL_does) (maxL := 6) (ret := (some .int)) (hh := [(0, 129, 130, 41), (0, 129, 135, 43), (0, 129, 140, 45)]) (by decide) rfl ?_
  intro p e s m args below meth c s₁ B hml hv
  obtain ⟨rfl, hsz, hP, hK, hD0, hE⟩ := hv
  have hx := B.exec
  have hb := B.bytes
  have hr := B.returns
  have hts := atoms_spec (ws := wsL_does) B.pre
  have hown : s.vm.findClass RL = some m.cls := findClass_of_methodNamed B.named
  have hlocks := B.notSynchronized
  have htab : c.exceptionTable.toList = tableOf [(0, 129, 130, 41), (0, 129, 135, 43), (0, 129, 140, 45)] := vx_table (x := yL_does) B (hts _ List.mem_cons_self)
  subst hsz
  have hD := hD0.self (sz := s.heap.size)
  have hA : ∀ q : Nat, s.heap.size ≤ q → (va_A ((cA T na mo nm rs D mny nA rA) ++ (cN T (nA j) x2 x3 N f g)) s.heap.size) q := fun q h => Or.inr h
  have hS : va_S (va_A ((cA T na mo nm rs D mny nA rA) ++ (cN T (nA j) x2 x3 N f g)) s.heap.size) s.heap s.heap [] := va_S.rf
  have hl := lv_entry ([.ref na, .int 4, .int p0, .int p1, .int p2]) (n := 6) (Nat.le_of_ble_eq_true rfl)
  rw [lg_entry_eq]
  generalize (lg_sl ([.ref na, .int 4, .int p0, .int p1, .int p2]) ++ List.replicate (6 - (lg_sl ([.ref na, .int 4, .int p0, .int p1, .int p2])).length) Slot.unset).toArray = ls at hl ⊢
  have hl : lv_has ls 6 [(0, .ref na), (1, .int 4), (2, .int p0), (3, .int p1), (4, .int p2)] := hl
  have hP : va_P G vwCl ((cA T na mo nm rs D mny nA rA) ++ (cN T (nA j) x2 x3 N f g)) s.heap := hP
  refine lv_iload_n hx hb dL_does_0 rfl (lv_at hl 1 rfl) ?_
  refine lv_if_ne (tgt := 13) hx hb dL_does_1 (by decide) (fun c1 => ?_) (fun c1 => ?_)
  · skip
    refine lv_iload_n hx hb dL_does_13 rfl (lv_at hl 1 rfl) ?_
    refine lv_iconst (v := 1) hx hb dL_does_14 (by decide) ?_
    refine lv_icmp_ne (tgt := 29) hx hb dL_does_15 (by decide) (fun c15 => ?_) (fun c15 => ?_)
    · skip
      refine lv_iload_n hx hb dL_does_29 rfl (lv_at hl 1 rfl) ?_
      refine lv_iconst (v := 2) hx hb dL_does_30 (by decide) ?_
      refine lv_icmp_ne (tgt := 43) hx hb dL_does_31 (by decide) (fun c31 => ?_) (fun c31 => ?_)
      · skip
        refine lv_iload_n hx hb dL_does_43 rfl (lv_at hl 1 rfl) ?_
        refine lv_iconst (v := 3) hx hb dL_does_44 (by decide) ?_
        refine lv_icmp_ne (tgt := 56) hx hb dL_does_45 (by decide) (fun c45 => ?_) (fun c45 => ?_)
        · skip
          refine lv_iload_n hx hb dL_does_56 rfl (lv_at hl 1 rfl) ?_
          refine lv_iconst (v := 4) hx hb dL_does_57 (by decide) ?_
          refine lv_icmp_ne (tgt := 72) hx hb dL_does_58 (by decide) (fun c58 => ?_) (fun c58 => ?_)
          · exact absurd c58 (by decide)
          · skip
            refine lv_aload_n hx hb dL_does_61 rfl (lv_at hl 0 rfl) ?_
            refine lv_iload_n hx hb dL_does_62 rfl (lv_at hl 2 rfl) ?_
            refine lv_iload_n hx hb dL_does_63 rfl (lv_at hl 3 rfl) ?_
            refine lv_iload hx hb dL_does_64 (lv_at hl 4 rfl) ?_
            refine gxi (vx_runV (As := [.int p0, .int p1, .int p2]) (rest := []) ⟨hx, hb, hml, hown, hts⟩ (kX2_setRecord l hl0 G T na mo nm rs D mny nA rA j x2 x3 N f g p0 p1 p2 _ hj) (cwV 3 hts gL_does_X2_setRecord rfl rfl rfl (by decide +kernel) ⟨Nat.le_of_ble_eq_true rfl, Nat.le_of_ble_eq_true rfl⟩) ⟨gblind, va_recv hK hP (ci := 2) (q0 := 0) rfl rfl, gpre hE hK hP hD hS hA [0, 1, 2, 3, 4, 5, 6] rfl rfl⟩ rfl rfl hl.1 rfl (lv_room (Nat.le_of_ble_eq_true rfl)) dL_does_66 ⟨Nat.le_of_ble_eq_true rfl, Nat.le_of_ble_eq_true rfl⟩) hP hD hS hA [0, 1, 2, 3, 4, 5, 6] rfl rfl (fun E9 ce9 q9 H locs he hP hD hS hce hcv hcl => ?_) (fun r9 H locs hw hP hD hS => ?_)
            · skip
              have hP : va_P G vwCl ((cA T na mo nm rs D mny nA rA) ++ (cN T (nA j) x2 x3 N f g)) H := hP
              have hD : va_D (va_A ((cA T na mo nm rs D mny nA rA) ++ (cN T (nA j) x2 x3 N f g)) s.heap.size) ((cA T na mo nm rs D mny nA rA) ++ (cN T (nA j) x2 x3 N f g)) := hD
              rcases he with ⟨hk9, rfl⟩ | ⟨hk9, rfl⟩ | ⟨hk9, rfl⟩
              · skip
                exact absurd (hk.symm.trans hk9) (by decide)
              · skip
                exact absurd (hk.symm.trans hk9) (by decide)
              · skip
                exact absurd (hk.symm.trans hk9) (by decide)
            · skip
              have hP : va_P G vwCl ((cA T na mo nm rs D mny nA rA) ++ (cN T (nA j) x2 x3 (upd (upd N 4 p1) 5 p2) f g)) H := hP
              have hD : va_D (va_A ((cA T na mo nm rs D mny nA rA) ++ (cN T (nA j) x2 x3 N f g)) s.heap.size) ((cA T na mo nm rs D mny nA rA) ++ (cN T (nA j) x2 x3 (upd (upd N 4 p1) 5 p2) f g)) := hD
              obtain ⟨hok66, hw⟩ := hw
              subst hw
              refine lv_goto (tgt := 129) hx hb dL_does_69 (by decide) ?_
              exact W.iret (v := N 4) hx hb hr (fun t ht9 hW => ⟨⟨N 4, (), rfl, rfl, gBi ht9 (gfin hP (rfl))⟩, hS.F ht9⟩) hS.2.2 dL_does_129
        · exact absurd c45 (by decide)
      · exact absurd c31 (by decide)
    · exact absurd c15 (by decide)
  · exact absurd c1 (by decide)
abbrev PL_does_4_no (G : va_G) (T : Nat → ClassId) (na mo nm rs : Nat) (D mny : Nat → Int32) (nA rA : Nat → Nat) (j x2 x3 : Nat) (N f g : Nat → Int32) (p0 p1 p2 : Int32) (sz : Nat) : Array Value → State → Prop := gPc G T [.ref na, .int 4, .int p0, .int p1, .int p2] ((cA T na mo nm rs D mny nA rA) ++ (cN T (nA j) x2 x3 N f g)) sz
abbrev QL_does_4_no (G : va_G) (T : Nat → ClassId) (na mo nm rs : Nat) (D mny : Nat → Int32) (nA rA : Nat → Nat) (j x2 x3 : Nat) (N f g : Nat → Int32) (p0 p1 p2 : Int32) (sz : Nat) : Array Value → State → Outcome → State → Prop := va_Qi (fun (r : Int32) (_ : Unit) => r = wD (kSetRec N p0 p1 p2)) (gB G ((cA T na mo nm rs D mny nA rA) ++ (cN T (nA j) x2 x3 N f g))) (va_A ((cA T na mo nm rs D mny nA rA) ++ (cN T (nA j) x2 x3 N f g)) sz)
set_option maxHeartbeats 4000000 in
set_option maxRecDepth 100000 in
theorem kL_does_4_no (l : Launch) (hl0 : l.stackTraces = false) (G : va_G) (T : Nat → ClassId) (na mo nm rs : Nat) (D mny : Nat → Int32) (nA rA : Nat → Nat) (j x2 x3 : Nat) (N f g : Nat → Int32) (p0 p1 p2 : Int32) (sz : Nat) (hj : okI p0 16 = true → p0 = nI j ∧ j < 16) (hk : ¬ (kSetRec N p0 p1 p2) = 0) : Met l yL_does wsL_does ({ frames := 8, cells := 4, slots := 24, locals := 128 } : Room) (PL_does_4_no G T na mo nm rs D mny nA rA j x2 x3 N f g p0 p1 p2 sz) (QL_does_4_no G T na mo nm rs D mny nA rA j x2 x3 N f g p0 p1 p2 sz) 4 24 (va_A ((cA T na mo nm rs D mny nA rA) ++ (cN T (nA j) x2 x3 N f g)) sz) := by
  refine va_MetW (cc := cL_does) (maxL := 6) (ret := (some .int)) (hh := [(0, 129, 130, 41), (0, 129, 135, 43), (0, 129, 140, 45)]) (by decide) rfl ?_
  intro p e s m args below meth c s₁ B hml hv
  obtain ⟨rfl, hsz, hP, hK, hD0, hE⟩ := hv
  have hx := B.exec
  have hb := B.bytes
  have hr := B.returns
  have hts := atoms_spec (ws := wsL_does) B.pre
  have hown : s.vm.findClass RL = some m.cls := findClass_of_methodNamed B.named
  have hlocks := B.notSynchronized
  have htab : c.exceptionTable.toList = tableOf [(0, 129, 130, 41), (0, 129, 135, 43), (0, 129, 140, 45)] := vx_table (x := yL_does) B (hts _ List.mem_cons_self)
  subst hsz
  have hD := hD0.self (sz := s.heap.size)
  have hA : ∀ q : Nat, s.heap.size ≤ q → (va_A ((cA T na mo nm rs D mny nA rA) ++ (cN T (nA j) x2 x3 N f g)) s.heap.size) q := fun q h => Or.inr h
  have hS : va_S (va_A ((cA T na mo nm rs D mny nA rA) ++ (cN T (nA j) x2 x3 N f g)) s.heap.size) s.heap s.heap [] := va_S.rf
  have hl := lv_entry ([.ref na, .int 4, .int p0, .int p1, .int p2]) (n := 6) (Nat.le_of_ble_eq_true rfl)
  rw [lg_entry_eq]
  generalize (lg_sl ([.ref na, .int 4, .int p0, .int p1, .int p2]) ++ List.replicate (6 - (lg_sl ([.ref na, .int 4, .int p0, .int p1, .int p2])).length) Slot.unset).toArray = ls at hl ⊢
  have hl : lv_has ls 6 [(0, .ref na), (1, .int 4), (2, .int p0), (3, .int p1), (4, .int p2)] := hl
  have hP : va_P G vwCl ((cA T na mo nm rs D mny nA rA) ++ (cN T (nA j) x2 x3 N f g)) s.heap := hP
  refine lv_iload_n hx hb dL_does_0 rfl (lv_at hl 1 rfl) ?_
  refine lv_if_ne (tgt := 13) hx hb dL_does_1 (by decide) (fun c1 => ?_) (fun c1 => ?_)
  · skip
    refine lv_iload_n hx hb dL_does_13 rfl (lv_at hl 1 rfl) ?_
    refine lv_iconst (v := 1) hx hb dL_does_14 (by decide) ?_
    refine lv_icmp_ne (tgt := 29) hx hb dL_does_15 (by decide) (fun c15 => ?_) (fun c15 => ?_)
    · skip
      refine lv_iload_n hx hb dL_does_29 rfl (lv_at hl 1 rfl) ?_
      refine lv_iconst (v := 2) hx hb dL_does_30 (by decide) ?_
      refine lv_icmp_ne (tgt := 43) hx hb dL_does_31 (by decide) (fun c31 => ?_) (fun c31 => ?_)
      · skip
        refine lv_iload_n hx hb dL_does_43 rfl (lv_at hl 1 rfl) ?_
        refine lv_iconst (v := 3) hx hb dL_does_44 (by decide) ?_
        refine lv_icmp_ne (tgt := 56) hx hb dL_does_45 (by decide) (fun c45 => ?_) (fun c45 => ?_)
        · skip
          refine lv_iload_n hx hb dL_does_56 rfl (lv_at hl 1 rfl) ?_
          refine lv_iconst (v := 4) hx hb dL_does_57 (by decide) ?_
          refine lv_icmp_ne (tgt := 72) hx hb dL_does_58 (by decide) (fun c58 => ?_) (fun c58 => ?_)
          · exact absurd c58 (by decide)
          · skip
            refine lv_aload_n hx hb dL_does_61 rfl (lv_at hl 0 rfl) ?_
            refine lv_iload_n hx hb dL_does_62 rfl (lv_at hl 2 rfl) ?_
            refine lv_iload_n hx hb dL_does_63 rfl (lv_at hl 3 rfl) ?_
            refine lv_iload hx hb dL_does_64 (lv_at hl 4 rfl) ?_
            refine gxi (vx_runV (As := [.int p0, .int p1, .int p2]) (rest := []) ⟨hx, hb, hml, hown, hts⟩ (kX2_setRecord l hl0 G T na mo nm rs D mny nA rA j x2 x3 N f g p0 p1 p2 _ hj) (cwV 3 hts gL_does_X2_setRecord rfl rfl rfl (by decide +kernel) ⟨Nat.le_of_ble_eq_true rfl, Nat.le_of_ble_eq_true rfl⟩) ⟨gblind, va_recv hK hP (ci := 2) (q0 := 0) rfl rfl, gpre hE hK hP hD hS hA [0, 1, 2, 3, 4, 5, 6] rfl rfl⟩ rfl rfl hl.1 rfl (lv_room (Nat.le_of_ble_eq_true rfl)) dL_does_66 ⟨Nat.le_of_ble_eq_true rfl, Nat.le_of_ble_eq_true rfl⟩) hP hD hS hA [0, 1, 2, 3, 4, 5, 6] rfl rfl (fun E9 ce9 q9 H locs he hP hD hS hce hcv hcl => ?_) (fun r9 H locs hw hP hD hS => ?_)
            · skip
              have hP : va_P G vwCl ((cA T na mo nm rs D mny nA rA) ++ (cN T (nA j) x2 x3 N f g)) H := hP
              have hD : va_D (va_A ((cA T na mo nm rs D mny nA rA) ++ (cN T (nA j) x2 x3 N f g)) s.heap.size) ((cA T na mo nm rs D mny nA rA) ++ (cN T (nA j) x2 x3 N f g)) := hD
              rcases he with ⟨hk9, rfl⟩ | ⟨hk9, rfl⟩ | ⟨hk9, rfl⟩
              · skip
                refine vx_catch (own := RL) (name := "java/lang/IndexOutOfBoundsException") hown [] ⟨0, 129, 130, 41⟩ [⟨0, 129, 135, 43⟩, ⟨0, 129, 140, 45⟩] (htab.trans rfl) (fun z hz => nomatch hz) rfl (by decide) (hts (.classLink RL 41 "java/lang/IndexOutOfBoundsException") (by decide +kernel)) (va_Nw.use rfl (hE.1 (.castable "java/lang/IndexOutOfBoundsException" "java/lang/IndexOutOfBoundsException") (by decide +kernel))) hce hcv hcl ?_
                refine lv_astore (lv' := [(5, .ref q9), (0, .ref na), (1, .int 4), (2, .int p0), (3, .int p1), (4, .int p2)]) hx hb dL_does_130 hl (by decide) rfl (fun ls hl => ?_)
                refine lv_bipush (v := (-30)) hx hb dL_does_132 (by decide) ?_
                exact W.iret (v := (-30)) hx hb hr (fun t ht9 hW => ⟨⟨(-30), (), rfl, by rw [hk9]; rfl, gBi ht9 (gfin hP (rfl))⟩, hS.F ht9⟩) hS.2.2 dL_does_134
              · skip
                refine vx_catch (own := RL) (name := "java/lang/IllegalArgumentException") hown [⟨0, 129, 130, 41⟩] ⟨0, 129, 135, 43⟩ [⟨0, 129, 140, 45⟩] (htab.trans rfl) (fun z hz => by cases List.mem_singleton.mp hz; exact Or.inr ⟨by decide, "java/lang/IndexOutOfBoundsException", hts (.classLink RL 41 "java/lang/IndexOutOfBoundsException") (by decide +kernel), hE.2.1.1⟩) rfl (by decide) (hts (.classLink RL 43 "java/lang/IllegalArgumentException") (by decide +kernel)) (va_Nw.use rfl (hE.1 (.castable "java/lang/IllegalArgumentException" "java/lang/IllegalArgumentException") (by decide +kernel))) hce hcv hcl ?_
                refine lv_astore (lv' := [(5, .ref q9), (0, .ref na), (1, .int 4), (2, .int p0), (3, .int p1), (4, .int p2)]) hx hb dL_does_135 hl (by decide) rfl (fun ls hl => ?_)
                refine lv_bipush (v := (-20)) hx hb dL_does_137 (by decide) ?_
                exact W.iret (v := (-20)) hx hb hr (fun t ht9 hW => ⟨⟨(-20), (), rfl, by rw [hk9]; rfl, gBi ht9 (gfin hP (rfl))⟩, hS.F ht9⟩) hS.2.2 dL_does_139
              · skip
                refine vx_catch (own := RL) (name := "java/lang/IllegalStateException") hown [⟨0, 129, 130, 41⟩, ⟨0, 129, 135, 43⟩] ⟨0, 129, 140, 45⟩ [] (htab.trans rfl) (fun z hz => by rcases List.mem_cons.mp hz with rfl | hz; exact Or.inr ⟨by decide, "java/lang/IndexOutOfBoundsException", hts (.classLink RL 41 "java/lang/IndexOutOfBoundsException") (by decide +kernel), hE.2.1.2.1⟩; cases List.mem_singleton.mp hz; exact Or.inr ⟨by decide, "java/lang/IllegalArgumentException", hts (.classLink RL 43 "java/lang/IllegalArgumentException") (by decide +kernel), hE.2.1.2.2⟩) rfl (by decide) (hts (.classLink RL 45 "java/lang/IllegalStateException") (by decide +kernel)) (va_Nw.use rfl (hE.1 (.castable "java/lang/IllegalStateException" "java/lang/IllegalStateException") (by decide +kernel))) hce hcv hcl ?_
                refine lv_astore (lv' := [(5, .ref q9), (0, .ref na), (1, .int 4), (2, .int p0), (3, .int p1), (4, .int p2)]) hx hb dL_does_140 hl (by decide) rfl (fun ls hl => ?_)
                refine lv_bipush (v := (-10)) hx hb dL_does_142 (by decide) ?_
                exact W.iret (v := (-10)) hx hb hr (fun t ht9 hW => ⟨⟨(-10), (), rfl, by rw [hk9]; rfl, gBi ht9 (gfin hP (rfl))⟩, hS.F ht9⟩) hS.2.2 dL_does_144
            · skip
              have hP : va_P G vwCl ((cA T na mo nm rs D mny nA rA) ++ (cN T (nA j) x2 x3 (upd (upd N 4 p1) 5 p2) f g)) H := hP
              have hD : va_D (va_A ((cA T na mo nm rs D mny nA rA) ++ (cN T (nA j) x2 x3 N f g)) s.heap.size) ((cA T na mo nm rs D mny nA rA) ++ (cN T (nA j) x2 x3 (upd (upd N 4 p1) 5 p2) f g)) := hD
              exact absurd hw.1 hk
        · exact absurd c45 (by decide)
      · exact absurd c31 (by decide)
    · exact absurd c15 (by decide)
  · exact absurd c1 (by decide)
abbrev PL_does_5_ok (G : va_G) (T : Nat → ClassId) (na mo nm rs : Nat) (D mny : Nat → Int32) (nA rA : Nat → Nat) (j x2 x3 : Nat) (N f g : Nat → Int32) (p0 p1 : Int32) (z2 : Int32) (sz : Nat) : Array Value → State → Prop := gPc G T [.ref na, .int 5, .int p0, .int p1, .int z2] ((cA T na mo nm rs D mny nA rA) ++ (cN T (nA j) x2 x3 N f g)) sz
abbrev QL_does_5_ok (G : va_G) (T : Nat → ClassId) (na mo nm rs : Nat) (D mny : Nat → Int32) (nA rA : Nat → Nat) (j x2 x3 : Nat) (N f g : Nat → Int32) (p0 p1 : Int32) (z2 : Int32) (sz : Nat) : Array Value → State → Outcome → State → Prop := va_Qi (fun (r : Int32) (_ : Unit) => r = N 0) (gB G ((cA T na mo nm rs D mny nA rA) ++ (cN T (nA j) x2 x3 (upd (upd (upd (upd N 6 (N 0)) 0 5) 7 p0) 8 (D 3)) (fun _ => 0) g))) (va_A ((cA T na mo nm rs D mny nA rA) ++ (cN T (nA j) x2 x3 N f g)) sz)
set_option maxHeartbeats 4000000 in
set_option maxRecDepth 100000 in
theorem kL_does_5_ok (l : Launch) (hl0 : l.stackTraces = false) (G : va_G) (T : Nat → ClassId) (na mo nm rs : Nat) (D mny : Nat → Int32) (nA rA : Nat → Nat) (j x2 x3 : Nat) (N f g : Nat → Int32) (p0 p1 : Int32) (z2 : Int32) (sz : Nat) (hj : okI p1 16 = true → p1 = nI j ∧ j < 16) (hk : (kDispute N p0 p1) = 0) : Met l yL_does wsL_does ({ frames := 8, cells := 3, slots := 18, locals := 126 } : Room) (PL_does_5_ok G T na mo nm rs D mny nA rA j x2 x3 N f g p0 p1 z2 sz) (QL_does_5_ok G T na mo nm rs D mny nA rA j x2 x3 N f g p0 p1 z2 sz) 3 18 (va_A ((cA T na mo nm rs D mny nA rA) ++ (cN T (nA j) x2 x3 N f g)) sz) := by
  refine va_MetW (cc := cL_does) (maxL := 6) (ret := (some .int)) (hh := [(0, 129, 130, 41), (0, 129, 135, 43), (0, 129, 140, 45)]) (by decide) rfl ?_
  intro p e s m args below meth c s₁ B hml hv
  obtain ⟨rfl, hsz, hP, hK, hD0, hE⟩ := hv
  have hx := B.exec
  have hb := B.bytes
  have hr := B.returns
  have hts := atoms_spec (ws := wsL_does) B.pre
  have hown : s.vm.findClass RL = some m.cls := findClass_of_methodNamed B.named
  have hlocks := B.notSynchronized
  have htab : c.exceptionTable.toList = tableOf [(0, 129, 130, 41), (0, 129, 135, 43), (0, 129, 140, 45)] := vx_table (x := yL_does) B (hts _ List.mem_cons_self)
  subst hsz
  have hD := hD0.self (sz := s.heap.size)
  have hA : ∀ q : Nat, s.heap.size ≤ q → (va_A ((cA T na mo nm rs D mny nA rA) ++ (cN T (nA j) x2 x3 N f g)) s.heap.size) q := fun q h => Or.inr h
  have hS : va_S (va_A ((cA T na mo nm rs D mny nA rA) ++ (cN T (nA j) x2 x3 N f g)) s.heap.size) s.heap s.heap [] := va_S.rf
  have hl := lv_entry ([.ref na, .int 5, .int p0, .int p1, .int z2]) (n := 6) (Nat.le_of_ble_eq_true rfl)
  rw [lg_entry_eq]
  generalize (lg_sl ([.ref na, .int 5, .int p0, .int p1, .int z2]) ++ List.replicate (6 - (lg_sl ([.ref na, .int 5, .int p0, .int p1, .int z2])).length) Slot.unset).toArray = ls at hl ⊢
  have hl : lv_has ls 6 [(0, .ref na), (1, .int 5), (2, .int p0), (3, .int p1), (4, .int z2)] := hl
  have hP : va_P G vwCl ((cA T na mo nm rs D mny nA rA) ++ (cN T (nA j) x2 x3 N f g)) s.heap := hP
  refine lv_iload_n hx hb dL_does_0 rfl (lv_at hl 1 rfl) ?_
  refine lv_if_ne (tgt := 13) hx hb dL_does_1 (by decide) (fun c1 => ?_) (fun c1 => ?_)
  · skip
    refine lv_iload_n hx hb dL_does_13 rfl (lv_at hl 1 rfl) ?_
    refine lv_iconst (v := 1) hx hb dL_does_14 (by decide) ?_
    refine lv_icmp_ne (tgt := 29) hx hb dL_does_15 (by decide) (fun c15 => ?_) (fun c15 => ?_)
    · skip
      refine lv_iload_n hx hb dL_does_29 rfl (lv_at hl 1 rfl) ?_
      refine lv_iconst (v := 2) hx hb dL_does_30 (by decide) ?_
      refine lv_icmp_ne (tgt := 43) hx hb dL_does_31 (by decide) (fun c31 => ?_) (fun c31 => ?_)
      · skip
        refine lv_iload_n hx hb dL_does_43 rfl (lv_at hl 1 rfl) ?_
        refine lv_iconst (v := 3) hx hb dL_does_44 (by decide) ?_
        refine lv_icmp_ne (tgt := 56) hx hb dL_does_45 (by decide) (fun c45 => ?_) (fun c45 => ?_)
        · skip
          refine lv_iload_n hx hb dL_does_56 rfl (lv_at hl 1 rfl) ?_
          refine lv_iconst (v := 4) hx hb dL_does_57 (by decide) ?_
          refine lv_icmp_ne (tgt := 72) hx hb dL_does_58 (by decide) (fun c58 => ?_) (fun c58 => ?_)
          · skip
            refine lv_iload_n hx hb dL_does_72 rfl (lv_at hl 1 rfl) ?_
            refine lv_iconst (v := 5) hx hb dL_does_73 (by decide) ?_
            refine lv_icmp_ne (tgt := 86) hx hb dL_does_74 (by decide) (fun c74 => ?_) (fun c74 => ?_)
            · exact absurd c74 (by decide)
            · skip
              refine lv_aload_n hx hb dL_does_77 rfl (lv_at hl 0 rfl) ?_
              refine lv_iload_n hx hb dL_does_78 rfl (lv_at hl 2 rfl) ?_
              refine lv_iload_n hx hb dL_does_79 rfl (lv_at hl 3 rfl) ?_
              refine gxi (vx_runV (As := [.int p0, .int p1]) (rest := []) ⟨hx, hb, hml, hown, hts⟩ (kX2_dispute l hl0 G T na mo nm rs D mny nA rA j x2 x3 N f g p0 p1 _ hj) (cwV 2 hts gL_does_X2_dispute rfl rfl rfl (by decide +kernel) ⟨Nat.le_of_ble_eq_true rfl, Nat.le_of_ble_eq_true rfl⟩) ⟨gblind, va_recv hK hP (ci := 2) (q0 := 0) rfl rfl, gpre hE hK hP hD hS hA [0, 1, 2, 3, 4, 5, 6] rfl rfl⟩ rfl rfl hl.1 rfl (lv_room (Nat.le_of_ble_eq_true rfl)) dL_does_80 ⟨Nat.le_of_ble_eq_true rfl, Nat.le_of_ble_eq_true rfl⟩) hP hD hS hA [0, 1, 2, 3, 4, 5, 6] rfl rfl (fun E9 ce9 q9 H locs he hP hD hS hce hcv hcl => ?_) (fun r9 H locs hw hP hD hS => ?_)
              · skip
                have hP : va_P G vwCl ((cA T na mo nm rs D mny nA rA) ++ (cN T (nA j) x2 x3 N f g)) H := hP
                have hD : va_D (va_A ((cA T na mo nm rs D mny nA rA) ++ (cN T (nA j) x2 x3 N f g)) s.heap.size) ((cA T na mo nm rs D mny nA rA) ++ (cN T (nA j) x2 x3 N f g)) := hD
                rcases he with ⟨hk9, rfl⟩ | ⟨hk9, rfl⟩ | ⟨hk9, rfl⟩
                · skip
                  exact absurd (hk.symm.trans hk9) (by decide)
                · skip
                  exact absurd (hk.symm.trans hk9) (by decide)
                · skip
                  exact absurd (hk.symm.trans hk9) (by decide)
              · skip
                have hP : va_P G vwCl ((cA T na mo nm rs D mny nA rA) ++ (cN T (nA j) x2 x3 (upd (upd (upd (upd N 6 (N 0)) 0 5) 7 p0) 8 (D 3)) (fun _ => 0) g)) H := hP
                have hD : va_D (va_A ((cA T na mo nm rs D mny nA rA) ++ (cN T (nA j) x2 x3 N f g)) s.heap.size) ((cA T na mo nm rs D mny nA rA) ++ (cN T (nA j) x2 x3 (upd (upd (upd (upd N 6 (N 0)) 0 5) 7 p0) 8 (D 3)) (fun _ => 0) g)) := hD
                obtain ⟨hok80, hw⟩ := hw
                subst hw
                refine lv_goto (tgt := 129) hx hb dL_does_83 (by decide) ?_
                exact W.iret (v := N 0) hx hb hr (fun t ht9 hW => ⟨⟨N 0, (), rfl, rfl, gBi ht9 (gfin hP (rfl))⟩, hS.F ht9⟩) hS.2.2 dL_does_129
          · exact absurd c58 (by decide)
        · exact absurd c45 (by decide)
      · exact absurd c31 (by decide)
    · exact absurd c15 (by decide)
  · exact absurd c1 (by decide)
abbrev PL_does_5_no (G : va_G) (T : Nat → ClassId) (na mo nm rs : Nat) (D mny : Nat → Int32) (nA rA : Nat → Nat) (j x2 x3 : Nat) (N f g : Nat → Int32) (p0 p1 : Int32) (z2 : Int32) (sz : Nat) : Array Value → State → Prop := gPc G T [.ref na, .int 5, .int p0, .int p1, .int z2] ((cA T na mo nm rs D mny nA rA) ++ (cN T (nA j) x2 x3 N f g)) sz
abbrev QL_does_5_no (G : va_G) (T : Nat → ClassId) (na mo nm rs : Nat) (D mny : Nat → Int32) (nA rA : Nat → Nat) (j x2 x3 : Nat) (N f g : Nat → Int32) (p0 p1 : Int32) (z2 : Int32) (sz : Nat) : Array Value → State → Outcome → State → Prop := va_Qi (fun (r : Int32) (_ : Unit) => r = wD (kDispute N p0 p1)) (gB G ((cA T na mo nm rs D mny nA rA) ++ (cN T (nA j) x2 x3 N f g))) (va_A ((cA T na mo nm rs D mny nA rA) ++ (cN T (nA j) x2 x3 N f g)) sz)
set_option maxHeartbeats 4000000 in
set_option maxRecDepth 100000 in
theorem kL_does_5_no (l : Launch) (hl0 : l.stackTraces = false) (G : va_G) (T : Nat → ClassId) (na mo nm rs : Nat) (D mny : Nat → Int32) (nA rA : Nat → Nat) (j x2 x3 : Nat) (N f g : Nat → Int32) (p0 p1 : Int32) (z2 : Int32) (sz : Nat) (hj : okI p1 16 = true → p1 = nI j ∧ j < 16) (hk : ¬ (kDispute N p0 p1) = 0) : Met l yL_does wsL_does ({ frames := 8, cells := 3, slots := 18, locals := 126 } : Room) (PL_does_5_no G T na mo nm rs D mny nA rA j x2 x3 N f g p0 p1 z2 sz) (QL_does_5_no G T na mo nm rs D mny nA rA j x2 x3 N f g p0 p1 z2 sz) 3 18 (va_A ((cA T na mo nm rs D mny nA rA) ++ (cN T (nA j) x2 x3 N f g)) sz) := by
  refine va_MetW (cc := cL_does) (maxL := 6) (ret := (some .int)) (hh := [(0, 129, 130, 41), (0, 129, 135, 43), (0, 129, 140, 45)]) (by decide) rfl ?_
  intro p e s m args below meth c s₁ B hml hv
  obtain ⟨rfl, hsz, hP, hK, hD0, hE⟩ := hv
  have hx := B.exec
  have hb := B.bytes
  have hr := B.returns
  have hts := atoms_spec (ws := wsL_does) B.pre
  have hown : s.vm.findClass RL = some m.cls := findClass_of_methodNamed B.named
  have hlocks := B.notSynchronized
  have htab : c.exceptionTable.toList = tableOf [(0, 129, 130, 41), (0, 129, 135, 43), (0, 129, 140, 45)] := vx_table (x := yL_does) B (hts _ List.mem_cons_self)
  subst hsz
  have hD := hD0.self (sz := s.heap.size)
  have hA : ∀ q : Nat, s.heap.size ≤ q → (va_A ((cA T na mo nm rs D mny nA rA) ++ (cN T (nA j) x2 x3 N f g)) s.heap.size) q := fun q h => Or.inr h
  have hS : va_S (va_A ((cA T na mo nm rs D mny nA rA) ++ (cN T (nA j) x2 x3 N f g)) s.heap.size) s.heap s.heap [] := va_S.rf
  have hl := lv_entry ([.ref na, .int 5, .int p0, .int p1, .int z2]) (n := 6) (Nat.le_of_ble_eq_true rfl)
  rw [lg_entry_eq]
  generalize (lg_sl ([.ref na, .int 5, .int p0, .int p1, .int z2]) ++ List.replicate (6 - (lg_sl ([.ref na, .int 5, .int p0, .int p1, .int z2])).length) Slot.unset).toArray = ls at hl ⊢
  have hl : lv_has ls 6 [(0, .ref na), (1, .int 5), (2, .int p0), (3, .int p1), (4, .int z2)] := hl
  have hP : va_P G vwCl ((cA T na mo nm rs D mny nA rA) ++ (cN T (nA j) x2 x3 N f g)) s.heap := hP
  refine lv_iload_n hx hb dL_does_0 rfl (lv_at hl 1 rfl) ?_
  refine lv_if_ne (tgt := 13) hx hb dL_does_1 (by decide) (fun c1 => ?_) (fun c1 => ?_)
  · skip
    refine lv_iload_n hx hb dL_does_13 rfl (lv_at hl 1 rfl) ?_
    refine lv_iconst (v := 1) hx hb dL_does_14 (by decide) ?_
    refine lv_icmp_ne (tgt := 29) hx hb dL_does_15 (by decide) (fun c15 => ?_) (fun c15 => ?_)
    · skip
      refine lv_iload_n hx hb dL_does_29 rfl (lv_at hl 1 rfl) ?_
      refine lv_iconst (v := 2) hx hb dL_does_30 (by decide) ?_
      refine lv_icmp_ne (tgt := 43) hx hb dL_does_31 (by decide) (fun c31 => ?_) (fun c31 => ?_)
      · skip
        refine lv_iload_n hx hb dL_does_43 rfl (lv_at hl 1 rfl) ?_
        refine lv_iconst (v := 3) hx hb dL_does_44 (by decide) ?_
        refine lv_icmp_ne (tgt := 56) hx hb dL_does_45 (by decide) (fun c45 => ?_) (fun c45 => ?_)
        · skip
          refine lv_iload_n hx hb dL_does_56 rfl (lv_at hl 1 rfl) ?_
          refine lv_iconst (v := 4) hx hb dL_does_57 (by decide) ?_
          refine lv_icmp_ne (tgt := 72) hx hb dL_does_58 (by decide) (fun c58 => ?_) (fun c58 => ?_)
          · skip
            refine lv_iload_n hx hb dL_does_72 rfl (lv_at hl 1 rfl) ?_
            refine lv_iconst (v := 5) hx hb dL_does_73 (by decide) ?_
            refine lv_icmp_ne (tgt := 86) hx hb dL_does_74 (by decide) (fun c74 => ?_) (fun c74 => ?_)
            · exact absurd c74 (by decide)
            · skip
              refine lv_aload_n hx hb dL_does_77 rfl (lv_at hl 0 rfl) ?_
              refine lv_iload_n hx hb dL_does_78 rfl (lv_at hl 2 rfl) ?_
              refine lv_iload_n hx hb dL_does_79 rfl (lv_at hl 3 rfl) ?_
              refine gxi (vx_runV (As := [.int p0, .int p1]) (rest := []) ⟨hx, hb, hml, hown, hts⟩ (kX2_dispute l hl0 G T na mo nm rs D mny nA rA j x2 x3 N f g p0 p1 _ hj) (cwV 2 hts gL_does_X2_dispute rfl rfl rfl (by decide +kernel) ⟨Nat.le_of_ble_eq_true rfl, Nat.le_of_ble_eq_true rfl⟩) ⟨gblind, va_recv hK hP (ci := 2) (q0 := 0) rfl rfl, gpre hE hK hP hD hS hA [0, 1, 2, 3, 4, 5, 6] rfl rfl⟩ rfl rfl hl.1 rfl (lv_room (Nat.le_of_ble_eq_true rfl)) dL_does_80 ⟨Nat.le_of_ble_eq_true rfl, Nat.le_of_ble_eq_true rfl⟩) hP hD hS hA [0, 1, 2, 3, 4, 5, 6] rfl rfl (fun E9 ce9 q9 H locs he hP hD hS hce hcv hcl => ?_) (fun r9 H locs hw hP hD hS => ?_)
              · skip
                have hP : va_P G vwCl ((cA T na mo nm rs D mny nA rA) ++ (cN T (nA j) x2 x3 N f g)) H := hP
                have hD : va_D (va_A ((cA T na mo nm rs D mny nA rA) ++ (cN T (nA j) x2 x3 N f g)) s.heap.size) ((cA T na mo nm rs D mny nA rA) ++ (cN T (nA j) x2 x3 N f g)) := hD
                rcases he with ⟨hk9, rfl⟩ | ⟨hk9, rfl⟩ | ⟨hk9, rfl⟩
                · skip
                  refine vx_catch (own := RL) (name := "java/lang/IndexOutOfBoundsException") hown [] ⟨0, 129, 130, 41⟩ [⟨0, 129, 135, 43⟩, ⟨0, 129, 140, 45⟩] (htab.trans rfl) (fun z hz => nomatch hz) rfl (by decide) (hts (.classLink RL 41 "java/lang/IndexOutOfBoundsException") (by decide +kernel)) (va_Nw.use rfl (hE.1 (.castable "java/lang/IndexOutOfBoundsException" "java/lang/IndexOutOfBoundsException") (by decide +kernel))) hce hcv hcl ?_
                  refine lv_astore (lv' := [(5, .ref q9), (0, .ref na), (1, .int 5), (2, .int p0), (3, .int p1), (4, .int z2)]) hx hb dL_does_130 hl (by decide) rfl (fun ls hl => ?_)
                  refine lv_bipush (v := (-30)) hx hb dL_does_132 (by decide) ?_
                  exact W.iret (v := (-30)) hx hb hr (fun t ht9 hW => ⟨⟨(-30), (), rfl, by rw [hk9]; rfl, gBi ht9 (gfin hP (rfl))⟩, hS.F ht9⟩) hS.2.2 dL_does_134
                · skip
                  exact absurd hk9 (by simp only [kDispute]; repeat (first | split | decide))
                · skip
                  refine vx_catch (own := RL) (name := "java/lang/IllegalStateException") hown [⟨0, 129, 130, 41⟩, ⟨0, 129, 135, 43⟩] ⟨0, 129, 140, 45⟩ [] (htab.trans rfl) (fun z hz => by rcases List.mem_cons.mp hz with rfl | hz; exact Or.inr ⟨by decide, "java/lang/IndexOutOfBoundsException", hts (.classLink RL 41 "java/lang/IndexOutOfBoundsException") (by decide +kernel), hE.2.1.2.1⟩; cases List.mem_singleton.mp hz; exact Or.inr ⟨by decide, "java/lang/IllegalArgumentException", hts (.classLink RL 43 "java/lang/IllegalArgumentException") (by decide +kernel), hE.2.1.2.2⟩) rfl (by decide) (hts (.classLink RL 45 "java/lang/IllegalStateException") (by decide +kernel)) (va_Nw.use rfl (hE.1 (.castable "java/lang/IllegalStateException" "java/lang/IllegalStateException") (by decide +kernel))) hce hcv hcl ?_
                  refine lv_astore (lv' := [(5, .ref q9), (0, .ref na), (1, .int 5), (2, .int p0), (3, .int p1), (4, .int z2)]) hx hb dL_does_140 hl (by decide) rfl (fun ls hl => ?_)
                  refine lv_bipush (v := (-10)) hx hb dL_does_142 (by decide) ?_
                  exact W.iret (v := (-10)) hx hb hr (fun t ht9 hW => ⟨⟨(-10), (), rfl, by rw [hk9]; rfl, gBi ht9 (gfin hP (rfl))⟩, hS.F ht9⟩) hS.2.2 dL_does_144
              · skip
                have hP : va_P G vwCl ((cA T na mo nm rs D mny nA rA) ++ (cN T (nA j) x2 x3 (upd (upd (upd (upd N 6 (N 0)) 0 5) 7 p0) 8 (D 3)) (fun _ => 0) g)) H := hP
                have hD : va_D (va_A ((cA T na mo nm rs D mny nA rA) ++ (cN T (nA j) x2 x3 N f g)) s.heap.size) ((cA T na mo nm rs D mny nA rA) ++ (cN T (nA j) x2 x3 (upd (upd (upd (upd N 6 (N 0)) 0 5) 7 p0) 8 (D 3)) (fun _ => 0) g)) := hD
                exact absurd hw.1 hk
          · exact absurd c58 (by decide)
        · exact absurd c45 (by decide)
      · exact absurd c31 (by decide)
    · exact absurd c15 (by decide)
  · exact absurd c1 (by decide)
abbrev PL_does_6_ok (G : va_G) (T : Nat → ClassId) (na mo nm rs : Nat) (D mny : Nat → Int32) (nA rA : Nat → Nat) (j x2 x3 : Nat) (N f g : Nat → Int32) (p0 p1 : Int32) (z2 : Int32) (sz : Nat) : Array Value → State → Prop := gPc G T [.ref na, .int 6, .int p0, .int p1, .int z2] ((cA T na mo nm rs D mny nA rA) ++ (cN T (nA j) x2 x3 N f g)) sz
abbrev QL_does_6_ok (G : va_G) (T : Nat → ClassId) (na mo nm rs : Nat) (D mny : Nat → Int32) (nA rA : Nat → Nat) (j x2 x3 : Nat) (N f g : Nat → Int32) (p0 p1 : Int32) (z2 : Int32) (sz : Nat) : Array Value → State → Outcome → State → Prop := va_Qi (fun (r : Int32) (_ : Unit) => r = sThaw N p1 (D 3) 0) (gB G ((cA T na mo nm rs D mny nA rA) ++ (cN T (nA j) x2 x3 (sThaw N p1 (D 3)) (sThawF N f) g))) (va_A ((cA T na mo nm rs D mny nA rA) ++ (cN T (nA j) x2 x3 N f g)) sz)
set_option maxHeartbeats 4000000 in
set_option maxRecDepth 100000 in
theorem kL_does_6_ok (l : Launch) (hl0 : l.stackTraces = false) (G : va_G) (T : Nat → ClassId) (na mo nm rs : Nat) (D mny : Nat → Int32) (nA rA : Nat → Nat) (j x2 x3 : Nat) (N f g : Nat → Int32) (p0 p1 : Int32) (z2 : Int32) (sz : Nat) (hj : okI p0 16 = true → p0 = nI j ∧ j < 16) (hb01 : p1 = 0 ∨ p1 = 1) (hk : (kDecide N p0) = 0) : Met l yL_does wsL_does ({ frames := 8, cells := 2, slots := 12, locals := 125 } : Room) (PL_does_6_ok G T na mo nm rs D mny nA rA j x2 x3 N f g p0 p1 z2 sz) (QL_does_6_ok G T na mo nm rs D mny nA rA j x2 x3 N f g p0 p1 z2 sz) 2 12 (va_A ((cA T na mo nm rs D mny nA rA) ++ (cN T (nA j) x2 x3 N f g)) sz) := by
  refine va_MetW (cc := cL_does) (maxL := 6) (ret := (some .int)) (hh := [(0, 129, 130, 41), (0, 129, 135, 43), (0, 129, 140, 45)]) (by decide) rfl ?_
  intro p e s m args below meth c s₁ B hml hv
  obtain ⟨rfl, hsz, hP, hK, hD0, hE⟩ := hv
  have hx := B.exec
  have hb := B.bytes
  have hr := B.returns
  have hts := atoms_spec (ws := wsL_does) B.pre
  have hown : s.vm.findClass RL = some m.cls := findClass_of_methodNamed B.named
  have hlocks := B.notSynchronized
  have htab : c.exceptionTable.toList = tableOf [(0, 129, 130, 41), (0, 129, 135, 43), (0, 129, 140, 45)] := vx_table (x := yL_does) B (hts _ List.mem_cons_self)
  subst hsz
  have hD := hD0.self (sz := s.heap.size)
  have hA : ∀ q : Nat, s.heap.size ≤ q → (va_A ((cA T na mo nm rs D mny nA rA) ++ (cN T (nA j) x2 x3 N f g)) s.heap.size) q := fun q h => Or.inr h
  have hS : va_S (va_A ((cA T na mo nm rs D mny nA rA) ++ (cN T (nA j) x2 x3 N f g)) s.heap.size) s.heap s.heap [] := va_S.rf
  have hl := lv_entry ([.ref na, .int 6, .int p0, .int p1, .int z2]) (n := 6) (Nat.le_of_ble_eq_true rfl)
  rw [lg_entry_eq]
  generalize (lg_sl ([.ref na, .int 6, .int p0, .int p1, .int z2]) ++ List.replicate (6 - (lg_sl ([.ref na, .int 6, .int p0, .int p1, .int z2])).length) Slot.unset).toArray = ls at hl ⊢
  have hl : lv_has ls 6 [(0, .ref na), (1, .int 6), (2, .int p0), (3, .int p1), (4, .int z2)] := hl
  have hP : va_P G vwCl ((cA T na mo nm rs D mny nA rA) ++ (cN T (nA j) x2 x3 N f g)) s.heap := hP
  refine lv_iload_n hx hb dL_does_0 rfl (lv_at hl 1 rfl) ?_
  refine lv_if_ne (tgt := 13) hx hb dL_does_1 (by decide) (fun c1 => ?_) (fun c1 => ?_)
  · skip
    refine lv_iload_n hx hb dL_does_13 rfl (lv_at hl 1 rfl) ?_
    refine lv_iconst (v := 1) hx hb dL_does_14 (by decide) ?_
    refine lv_icmp_ne (tgt := 29) hx hb dL_does_15 (by decide) (fun c15 => ?_) (fun c15 => ?_)
    · skip
      refine lv_iload_n hx hb dL_does_29 rfl (lv_at hl 1 rfl) ?_
      refine lv_iconst (v := 2) hx hb dL_does_30 (by decide) ?_
      refine lv_icmp_ne (tgt := 43) hx hb dL_does_31 (by decide) (fun c31 => ?_) (fun c31 => ?_)
      · skip
        refine lv_iload_n hx hb dL_does_43 rfl (lv_at hl 1 rfl) ?_
        refine lv_iconst (v := 3) hx hb dL_does_44 (by decide) ?_
        refine lv_icmp_ne (tgt := 56) hx hb dL_does_45 (by decide) (fun c45 => ?_) (fun c45 => ?_)
        · skip
          refine lv_iload_n hx hb dL_does_56 rfl (lv_at hl 1 rfl) ?_
          refine lv_iconst (v := 4) hx hb dL_does_57 (by decide) ?_
          refine lv_icmp_ne (tgt := 72) hx hb dL_does_58 (by decide) (fun c58 => ?_) (fun c58 => ?_)
          · skip
            refine lv_iload_n hx hb dL_does_72 rfl (lv_at hl 1 rfl) ?_
            refine lv_iconst (v := 5) hx hb dL_does_73 (by decide) ?_
            refine lv_icmp_ne (tgt := 86) hx hb dL_does_74 (by decide) (fun c74 => ?_) (fun c74 => ?_)
            · skip
              refine lv_iload_n hx hb dL_does_86 rfl (lv_at hl 1 rfl) ?_
              refine lv_bipush (v := 6) hx hb dL_does_87 (by decide) ?_
              refine lv_icmp_ne (tgt := 110) hx hb dL_does_89 (by decide) (fun c89 => ?_) (fun c89 => ?_)
              · exact absurd c89 (by decide)
              · skip
                refine lv_aload_n hx hb dL_does_92 rfl (lv_at hl 0 rfl) ?_
                refine lv_iload_n hx hb dL_does_93 rfl (lv_at hl 2 rfl) ?_
                refine lv_iload_n hx hb dL_does_94 rfl (lv_at hl 3 rfl) ?_
                refine lv_iconst (v := 1) hx hb dL_does_95 (by decide) ?_
                refine lv_icmp_ne (tgt := 103) hx hb dL_does_96 (by decide) (fun c96 => ?_) (fun c96 => ?_)
                · skip
                  refine lv_iconst (v := 0) hx hb dL_does_103 (by decide) ?_
                  refine gxi (vx_runV (As := [.int p0, .int 0]) (rest := []) ⟨hx, hb, hml, hown, hts⟩ (kX2_decide l hl0 G T na mo nm rs D mny nA rA j x2 x3 N f g p0 0 _ hj) (cwV 2 hts gL_does_X2_decide rfl rfl rfl (by decide +kernel) ⟨Nat.le_of_ble_eq_true rfl, Nat.le_of_ble_eq_true rfl⟩) ⟨gblind, va_recv hK hP (ci := 2) (q0 := 0) rfl rfl, gpre hE hK hP hD hS hA [0, 1, 2, 3, 4, 5, 6] rfl rfl⟩ rfl rfl hl.1 rfl (lv_room (Nat.le_of_ble_eq_true rfl)) dL_does_104 ⟨Nat.le_of_ble_eq_true rfl, Nat.le_of_ble_eq_true rfl⟩) hP hD hS hA [0, 1, 2, 3, 4, 5, 6] rfl rfl (fun E9 ce9 q9 H locs he hP hD hS hce hcv hcl => ?_) (fun r9 H locs hw hP hD hS => ?_)
                  · skip
                    have hP : va_P G vwCl ((cA T na mo nm rs D mny nA rA) ++ (cN T (nA j) x2 x3 N f g)) H := hP
                    have hD : va_D (va_A ((cA T na mo nm rs D mny nA rA) ++ (cN T (nA j) x2 x3 N f g)) s.heap.size) ((cA T na mo nm rs D mny nA rA) ++ (cN T (nA j) x2 x3 N f g)) := hD
                    rcases he with ⟨hk9, rfl⟩ | ⟨hk9, rfl⟩ | ⟨hk9, rfl⟩
                    · skip
                      exact absurd (hk.symm.trans hk9) (by decide)
                    · skip
                      exact absurd (hk.symm.trans hk9) (by decide)
                    · skip
                      exact absurd (hk.symm.trans hk9) (by decide)
                  · skip
                    have hP : va_P G vwCl ((cA T na mo nm rs D mny nA rA) ++ (cN T (nA j) x2 x3 (sThaw N 0 (D 3)) (sThawF N f) g)) H := hP
                    have hD : va_D (va_A ((cA T na mo nm rs D mny nA rA) ++ (cN T (nA j) x2 x3 N f g)) s.heap.size) ((cA T na mo nm rs D mny nA rA) ++ (cN T (nA j) x2 x3 (sThaw N 0 (D 3)) (sThawF N f) g)) := hD
                    obtain ⟨hok104, hw⟩ := hw
                    subst hw
                    refine lv_goto (tgt := 129) hx hb dL_does_107 (by decide) ?_
                    exact W.iret (v := sThaw N 0 (D 3) 0) hx hb hr (fun t ht9 hW => ⟨⟨sThaw N 0 (D 3) 0, (), rfl, by first | rw [c96] | rw [hb01.resolve_right c96], gBi ht9 (gfin hP (by first | rw [c96] | rw [hb01.resolve_right c96]))⟩, hS.F ht9⟩) hS.2.2 dL_does_129
                · skip
                  refine lv_iconst (v := 1) hx hb dL_does_99 (by decide) ?_
                  refine lv_goto (tgt := 104) hx hb dL_does_100 (by decide) ?_
                  refine gxi (vx_runV (As := [.int p0, .int 1]) (rest := []) ⟨hx, hb, hml, hown, hts⟩ (kX2_decide l hl0 G T na mo nm rs D mny nA rA j x2 x3 N f g p0 1 _ hj) (cwV 2 hts gL_does_X2_decide rfl rfl rfl (by decide +kernel) ⟨Nat.le_of_ble_eq_true rfl, Nat.le_of_ble_eq_true rfl⟩) ⟨gblind, va_recv hK hP (ci := 2) (q0 := 0) rfl rfl, gpre hE hK hP hD hS hA [0, 1, 2, 3, 4, 5, 6] rfl rfl⟩ rfl rfl hl.1 rfl (lv_room (Nat.le_of_ble_eq_true rfl)) dL_does_104 ⟨Nat.le_of_ble_eq_true rfl, Nat.le_of_ble_eq_true rfl⟩) hP hD hS hA [0, 1, 2, 3, 4, 5, 6] rfl rfl (fun E9 ce9 q9 H locs he hP hD hS hce hcv hcl => ?_) (fun r9 H locs hw hP hD hS => ?_)
                  · skip
                    have hP : va_P G vwCl ((cA T na mo nm rs D mny nA rA) ++ (cN T (nA j) x2 x3 N f g)) H := hP
                    have hD : va_D (va_A ((cA T na mo nm rs D mny nA rA) ++ (cN T (nA j) x2 x3 N f g)) s.heap.size) ((cA T na mo nm rs D mny nA rA) ++ (cN T (nA j) x2 x3 N f g)) := hD
                    rcases he with ⟨hk9, rfl⟩ | ⟨hk9, rfl⟩ | ⟨hk9, rfl⟩
                    · skip
                      exact absurd (hk.symm.trans hk9) (by decide)
                    · skip
                      exact absurd (hk.symm.trans hk9) (by decide)
                    · skip
                      exact absurd (hk.symm.trans hk9) (by decide)
                  · skip
                    have hP : va_P G vwCl ((cA T na mo nm rs D mny nA rA) ++ (cN T (nA j) x2 x3 (sThaw N 1 (D 3)) (sThawF N f) g)) H := hP
                    have hD : va_D (va_A ((cA T na mo nm rs D mny nA rA) ++ (cN T (nA j) x2 x3 N f g)) s.heap.size) ((cA T na mo nm rs D mny nA rA) ++ (cN T (nA j) x2 x3 (sThaw N 1 (D 3)) (sThawF N f) g)) := hD
                    obtain ⟨hok104, hw⟩ := hw
                    subst hw
                    refine lv_goto (tgt := 129) hx hb dL_does_107 (by decide) ?_
                    exact W.iret (v := sThaw N 1 (D 3) 0) hx hb hr (fun t ht9 hW => ⟨⟨sThaw N 1 (D 3) 0, (), rfl, by first | rw [c96] | rw [hb01.resolve_right c96], gBi ht9 (gfin hP (by first | rw [c96] | rw [hb01.resolve_right c96]))⟩, hS.F ht9⟩) hS.2.2 dL_does_129
            · exact absurd c74 (by decide)
          · exact absurd c58 (by decide)
        · exact absurd c45 (by decide)
      · exact absurd c31 (by decide)
    · exact absurd c15 (by decide)
  · exact absurd c1 (by decide)
abbrev PL_does_6_no (G : va_G) (T : Nat → ClassId) (na mo nm rs : Nat) (D mny : Nat → Int32) (nA rA : Nat → Nat) (j x2 x3 : Nat) (N f g : Nat → Int32) (p0 p1 : Int32) (z2 : Int32) (sz : Nat) : Array Value → State → Prop := gPc G T [.ref na, .int 6, .int p0, .int p1, .int z2] ((cA T na mo nm rs D mny nA rA) ++ (cN T (nA j) x2 x3 N f g)) sz
abbrev QL_does_6_no (G : va_G) (T : Nat → ClassId) (na mo nm rs : Nat) (D mny : Nat → Int32) (nA rA : Nat → Nat) (j x2 x3 : Nat) (N f g : Nat → Int32) (p0 p1 : Int32) (z2 : Int32) (sz : Nat) : Array Value → State → Outcome → State → Prop := va_Qi (fun (r : Int32) (_ : Unit) => r = wD (kDecide N p0)) (gB G ((cA T na mo nm rs D mny nA rA) ++ (cN T (nA j) x2 x3 N f g))) (va_A ((cA T na mo nm rs D mny nA rA) ++ (cN T (nA j) x2 x3 N f g)) sz)
set_option maxHeartbeats 4000000 in
set_option maxRecDepth 100000 in
theorem kL_does_6_no (l : Launch) (hl0 : l.stackTraces = false) (G : va_G) (T : Nat → ClassId) (na mo nm rs : Nat) (D mny : Nat → Int32) (nA rA : Nat → Nat) (j x2 x3 : Nat) (N f g : Nat → Int32) (p0 p1 : Int32) (z2 : Int32) (sz : Nat) (hj : okI p0 16 = true → p0 = nI j ∧ j < 16) (hb01 : p1 = 0 ∨ p1 = 1) (hk : ¬ (kDecide N p0) = 0) : Met l yL_does wsL_does ({ frames := 8, cells := 2, slots := 12, locals := 125 } : Room) (PL_does_6_no G T na mo nm rs D mny nA rA j x2 x3 N f g p0 p1 z2 sz) (QL_does_6_no G T na mo nm rs D mny nA rA j x2 x3 N f g p0 p1 z2 sz) 2 12 (va_A ((cA T na mo nm rs D mny nA rA) ++ (cN T (nA j) x2 x3 N f g)) sz) := by
  refine va_MetW (cc := cL_does) (maxL := 6) (ret := (some .int)) (hh := [(0, 129, 130, 41), (0, 129, 135, 43), (0, 129, 140, 45)]) (by decide) rfl ?_
  intro p e s m args below meth c s₁ B hml hv
  obtain ⟨rfl, hsz, hP, hK, hD0, hE⟩ := hv
  have hx := B.exec
  have hb := B.bytes
  have hr := B.returns
  have hts := atoms_spec (ws := wsL_does) B.pre
  have hown : s.vm.findClass RL = some m.cls := findClass_of_methodNamed B.named
  have hlocks := B.notSynchronized
  have htab : c.exceptionTable.toList = tableOf [(0, 129, 130, 41), (0, 129, 135, 43), (0, 129, 140, 45)] := vx_table (x := yL_does) B (hts _ List.mem_cons_self)
  subst hsz
  have hD := hD0.self (sz := s.heap.size)
  have hA : ∀ q : Nat, s.heap.size ≤ q → (va_A ((cA T na mo nm rs D mny nA rA) ++ (cN T (nA j) x2 x3 N f g)) s.heap.size) q := fun q h => Or.inr h
  have hS : va_S (va_A ((cA T na mo nm rs D mny nA rA) ++ (cN T (nA j) x2 x3 N f g)) s.heap.size) s.heap s.heap [] := va_S.rf
  have hl := lv_entry ([.ref na, .int 6, .int p0, .int p1, .int z2]) (n := 6) (Nat.le_of_ble_eq_true rfl)
  rw [lg_entry_eq]
  generalize (lg_sl ([.ref na, .int 6, .int p0, .int p1, .int z2]) ++ List.replicate (6 - (lg_sl ([.ref na, .int 6, .int p0, .int p1, .int z2])).length) Slot.unset).toArray = ls at hl ⊢
  have hl : lv_has ls 6 [(0, .ref na), (1, .int 6), (2, .int p0), (3, .int p1), (4, .int z2)] := hl
  have hP : va_P G vwCl ((cA T na mo nm rs D mny nA rA) ++ (cN T (nA j) x2 x3 N f g)) s.heap := hP
  refine lv_iload_n hx hb dL_does_0 rfl (lv_at hl 1 rfl) ?_
  refine lv_if_ne (tgt := 13) hx hb dL_does_1 (by decide) (fun c1 => ?_) (fun c1 => ?_)
  · skip
    refine lv_iload_n hx hb dL_does_13 rfl (lv_at hl 1 rfl) ?_
    refine lv_iconst (v := 1) hx hb dL_does_14 (by decide) ?_
    refine lv_icmp_ne (tgt := 29) hx hb dL_does_15 (by decide) (fun c15 => ?_) (fun c15 => ?_)
    · skip
      refine lv_iload_n hx hb dL_does_29 rfl (lv_at hl 1 rfl) ?_
      refine lv_iconst (v := 2) hx hb dL_does_30 (by decide) ?_
      refine lv_icmp_ne (tgt := 43) hx hb dL_does_31 (by decide) (fun c31 => ?_) (fun c31 => ?_)
      · skip
        refine lv_iload_n hx hb dL_does_43 rfl (lv_at hl 1 rfl) ?_
        refine lv_iconst (v := 3) hx hb dL_does_44 (by decide) ?_
        refine lv_icmp_ne (tgt := 56) hx hb dL_does_45 (by decide) (fun c45 => ?_) (fun c45 => ?_)
        · skip
          refine lv_iload_n hx hb dL_does_56 rfl (lv_at hl 1 rfl) ?_
          refine lv_iconst (v := 4) hx hb dL_does_57 (by decide) ?_
          refine lv_icmp_ne (tgt := 72) hx hb dL_does_58 (by decide) (fun c58 => ?_) (fun c58 => ?_)
          · skip
            refine lv_iload_n hx hb dL_does_72 rfl (lv_at hl 1 rfl) ?_
            refine lv_iconst (v := 5) hx hb dL_does_73 (by decide) ?_
            refine lv_icmp_ne (tgt := 86) hx hb dL_does_74 (by decide) (fun c74 => ?_) (fun c74 => ?_)
            · skip
              refine lv_iload_n hx hb dL_does_86 rfl (lv_at hl 1 rfl) ?_
              refine lv_bipush (v := 6) hx hb dL_does_87 (by decide) ?_
              refine lv_icmp_ne (tgt := 110) hx hb dL_does_89 (by decide) (fun c89 => ?_) (fun c89 => ?_)
              · exact absurd c89 (by decide)
              · skip
                refine lv_aload_n hx hb dL_does_92 rfl (lv_at hl 0 rfl) ?_
                refine lv_iload_n hx hb dL_does_93 rfl (lv_at hl 2 rfl) ?_
                refine lv_iload_n hx hb dL_does_94 rfl (lv_at hl 3 rfl) ?_
                refine lv_iconst (v := 1) hx hb dL_does_95 (by decide) ?_
                refine lv_icmp_ne (tgt := 103) hx hb dL_does_96 (by decide) (fun c96 => ?_) (fun c96 => ?_)
                · skip
                  refine lv_iconst (v := 0) hx hb dL_does_103 (by decide) ?_
                  refine gxi (vx_runV (As := [.int p0, .int 0]) (rest := []) ⟨hx, hb, hml, hown, hts⟩ (kX2_decide l hl0 G T na mo nm rs D mny nA rA j x2 x3 N f g p0 0 _ hj) (cwV 2 hts gL_does_X2_decide rfl rfl rfl (by decide +kernel) ⟨Nat.le_of_ble_eq_true rfl, Nat.le_of_ble_eq_true rfl⟩) ⟨gblind, va_recv hK hP (ci := 2) (q0 := 0) rfl rfl, gpre hE hK hP hD hS hA [0, 1, 2, 3, 4, 5, 6] rfl rfl⟩ rfl rfl hl.1 rfl (lv_room (Nat.le_of_ble_eq_true rfl)) dL_does_104 ⟨Nat.le_of_ble_eq_true rfl, Nat.le_of_ble_eq_true rfl⟩) hP hD hS hA [0, 1, 2, 3, 4, 5, 6] rfl rfl (fun E9 ce9 q9 H locs he hP hD hS hce hcv hcl => ?_) (fun r9 H locs hw hP hD hS => ?_)
                  · skip
                    have hP : va_P G vwCl ((cA T na mo nm rs D mny nA rA) ++ (cN T (nA j) x2 x3 N f g)) H := hP
                    have hD : va_D (va_A ((cA T na mo nm rs D mny nA rA) ++ (cN T (nA j) x2 x3 N f g)) s.heap.size) ((cA T na mo nm rs D mny nA rA) ++ (cN T (nA j) x2 x3 N f g)) := hD
                    rcases he with ⟨hk9, rfl⟩ | ⟨hk9, rfl⟩ | ⟨hk9, rfl⟩
                    · skip
                      refine vx_catch (own := RL) (name := "java/lang/IndexOutOfBoundsException") hown [] ⟨0, 129, 130, 41⟩ [⟨0, 129, 135, 43⟩, ⟨0, 129, 140, 45⟩] (htab.trans rfl) (fun z hz => nomatch hz) rfl (by decide) (hts (.classLink RL 41 "java/lang/IndexOutOfBoundsException") (by decide +kernel)) (va_Nw.use rfl (hE.1 (.castable "java/lang/IndexOutOfBoundsException" "java/lang/IndexOutOfBoundsException") (by decide +kernel))) hce hcv hcl ?_
                      refine lv_astore (lv' := [(5, .ref q9), (0, .ref na), (1, .int 6), (2, .int p0), (3, .int p1), (4, .int z2)]) hx hb dL_does_130 hl (by decide) rfl (fun ls hl => ?_)
                      refine lv_bipush (v := (-30)) hx hb dL_does_132 (by decide) ?_
                      exact W.iret (v := (-30)) hx hb hr (fun t ht9 hW => ⟨⟨(-30), (), rfl, by rw [hk9]; rfl, gBi ht9 (gfin hP (rfl))⟩, hS.F ht9⟩) hS.2.2 dL_does_134
                    · skip
                      exact absurd hk9 (by simp only [kDecide]; repeat (first | split | decide))
                    · skip
                      refine vx_catch (own := RL) (name := "java/lang/IllegalStateException") hown [⟨0, 129, 130, 41⟩, ⟨0, 129, 135, 43⟩] ⟨0, 129, 140, 45⟩ [] (htab.trans rfl) (fun z hz => by rcases List.mem_cons.mp hz with rfl | hz; exact Or.inr ⟨by decide, "java/lang/IndexOutOfBoundsException", hts (.classLink RL 41 "java/lang/IndexOutOfBoundsException") (by decide +kernel), hE.2.1.2.1⟩; cases List.mem_singleton.mp hz; exact Or.inr ⟨by decide, "java/lang/IllegalArgumentException", hts (.classLink RL 43 "java/lang/IllegalArgumentException") (by decide +kernel), hE.2.1.2.2⟩) rfl (by decide) (hts (.classLink RL 45 "java/lang/IllegalStateException") (by decide +kernel)) (va_Nw.use rfl (hE.1 (.castable "java/lang/IllegalStateException" "java/lang/IllegalStateException") (by decide +kernel))) hce hcv hcl ?_
                      refine lv_astore (lv' := [(5, .ref q9), (0, .ref na), (1, .int 6), (2, .int p0), (3, .int p1), (4, .int z2)]) hx hb dL_does_140 hl (by decide) rfl (fun ls hl => ?_)
                      refine lv_bipush (v := (-10)) hx hb dL_does_142 (by decide) ?_
                      exact W.iret (v := (-10)) hx hb hr (fun t ht9 hW => ⟨⟨(-10), (), rfl, by rw [hk9]; rfl, gBi ht9 (gfin hP (rfl))⟩, hS.F ht9⟩) hS.2.2 dL_does_144
                  · skip
                    have hP : va_P G vwCl ((cA T na mo nm rs D mny nA rA) ++ (cN T (nA j) x2 x3 (sThaw N 0 (D 3)) (sThawF N f) g)) H := hP
                    have hD : va_D (va_A ((cA T na mo nm rs D mny nA rA) ++ (cN T (nA j) x2 x3 N f g)) s.heap.size) ((cA T na mo nm rs D mny nA rA) ++ (cN T (nA j) x2 x3 (sThaw N 0 (D 3)) (sThawF N f) g)) := hD
                    exact absurd hw.1 hk
                · skip
                  refine lv_iconst (v := 1) hx hb dL_does_99 (by decide) ?_
                  refine lv_goto (tgt := 104) hx hb dL_does_100 (by decide) ?_
                  refine gxi (vx_runV (As := [.int p0, .int 1]) (rest := []) ⟨hx, hb, hml, hown, hts⟩ (kX2_decide l hl0 G T na mo nm rs D mny nA rA j x2 x3 N f g p0 1 _ hj) (cwV 2 hts gL_does_X2_decide rfl rfl rfl (by decide +kernel) ⟨Nat.le_of_ble_eq_true rfl, Nat.le_of_ble_eq_true rfl⟩) ⟨gblind, va_recv hK hP (ci := 2) (q0 := 0) rfl rfl, gpre hE hK hP hD hS hA [0, 1, 2, 3, 4, 5, 6] rfl rfl⟩ rfl rfl hl.1 rfl (lv_room (Nat.le_of_ble_eq_true rfl)) dL_does_104 ⟨Nat.le_of_ble_eq_true rfl, Nat.le_of_ble_eq_true rfl⟩) hP hD hS hA [0, 1, 2, 3, 4, 5, 6] rfl rfl (fun E9 ce9 q9 H locs he hP hD hS hce hcv hcl => ?_) (fun r9 H locs hw hP hD hS => ?_)
                  · skip
                    have hP : va_P G vwCl ((cA T na mo nm rs D mny nA rA) ++ (cN T (nA j) x2 x3 N f g)) H := hP
                    have hD : va_D (va_A ((cA T na mo nm rs D mny nA rA) ++ (cN T (nA j) x2 x3 N f g)) s.heap.size) ((cA T na mo nm rs D mny nA rA) ++ (cN T (nA j) x2 x3 N f g)) := hD
                    rcases he with ⟨hk9, rfl⟩ | ⟨hk9, rfl⟩ | ⟨hk9, rfl⟩
                    · skip
                      refine vx_catch (own := RL) (name := "java/lang/IndexOutOfBoundsException") hown [] ⟨0, 129, 130, 41⟩ [⟨0, 129, 135, 43⟩, ⟨0, 129, 140, 45⟩] (htab.trans rfl) (fun z hz => nomatch hz) rfl (by decide) (hts (.classLink RL 41 "java/lang/IndexOutOfBoundsException") (by decide +kernel)) (va_Nw.use rfl (hE.1 (.castable "java/lang/IndexOutOfBoundsException" "java/lang/IndexOutOfBoundsException") (by decide +kernel))) hce hcv hcl ?_
                      refine lv_astore (lv' := [(5, .ref q9), (0, .ref na), (1, .int 6), (2, .int p0), (3, .int p1), (4, .int z2)]) hx hb dL_does_130 hl (by decide) rfl (fun ls hl => ?_)
                      refine lv_bipush (v := (-30)) hx hb dL_does_132 (by decide) ?_
                      exact W.iret (v := (-30)) hx hb hr (fun t ht9 hW => ⟨⟨(-30), (), rfl, by rw [hk9]; rfl, gBi ht9 (gfin hP (rfl))⟩, hS.F ht9⟩) hS.2.2 dL_does_134
                    · skip
                      exact absurd hk9 (by simp only [kDecide]; repeat (first | split | decide))
                    · skip
                      refine vx_catch (own := RL) (name := "java/lang/IllegalStateException") hown [⟨0, 129, 130, 41⟩, ⟨0, 129, 135, 43⟩] ⟨0, 129, 140, 45⟩ [] (htab.trans rfl) (fun z hz => by rcases List.mem_cons.mp hz with rfl | hz; exact Or.inr ⟨by decide, "java/lang/IndexOutOfBoundsException", hts (.classLink RL 41 "java/lang/IndexOutOfBoundsException") (by decide +kernel), hE.2.1.2.1⟩; cases List.mem_singleton.mp hz; exact Or.inr ⟨by decide, "java/lang/IllegalArgumentException", hts (.classLink RL 43 "java/lang/IllegalArgumentException") (by decide +kernel), hE.2.1.2.2⟩) rfl (by decide) (hts (.classLink RL 45 "java/lang/IllegalStateException") (by decide +kernel)) (va_Nw.use rfl (hE.1 (.castable "java/lang/IllegalStateException" "java/lang/IllegalStateException") (by decide +kernel))) hce hcv hcl ?_
                      refine lv_astore (lv' := [(5, .ref q9), (0, .ref na), (1, .int 6), (2, .int p0), (3, .int p1), (4, .int z2)]) hx hb dL_does_140 hl (by decide) rfl (fun ls hl => ?_)
                      refine lv_bipush (v := (-10)) hx hb dL_does_142 (by decide) ?_
                      exact W.iret (v := (-10)) hx hb hr (fun t ht9 hW => ⟨⟨(-10), (), rfl, by rw [hk9]; rfl, gBi ht9 (gfin hP (rfl))⟩, hS.F ht9⟩) hS.2.2 dL_does_144
                  · skip
                    have hP : va_P G vwCl ((cA T na mo nm rs D mny nA rA) ++ (cN T (nA j) x2 x3 (sThaw N 1 (D 3)) (sThawF N f) g)) H := hP
                    have hD : va_D (va_A ((cA T na mo nm rs D mny nA rA) ++ (cN T (nA j) x2 x3 N f g)) s.heap.size) ((cA T na mo nm rs D mny nA rA) ++ (cN T (nA j) x2 x3 (sThaw N 1 (D 3)) (sThawF N f) g)) := hD
                    exact absurd hw.1 hk
            · exact absurd c74 (by decide)
          · exact absurd c58 (by decide)
        · exact absurd c45 (by decide)
      · exact absurd c31 (by decide)
    · exact absurd c15 (by decide)
  · exact absurd c1 (by decide)
abbrev PL_does_7_ok (G : va_G) (T : Nat → ClassId) (na mo nm rs : Nat) (D mny : Nat → Int32) (rA : Nat → Nat) (x1 x2 x3 : Nat → Nat) (N f g : Nat → Nat → Int32) (p0 : Int32) (z1 z2 : Int32) (sz : Nat) : Array Value → State → Prop := gPc G T [.ref na, .int 7, .int p0, .int z1, .int z2] ((cA T na mo nm rs D mny x1 rA) ++ (cNs T x1 x2 x3 N f g)) sz
abbrev QL_does_7_ok (G : va_G) (T : Nat → ClassId) (na mo nm rs : Nat) (D mny : Nat → Int32) (rA : Nat → Nat) (x1 x2 x3 : Nat → Nat) (N f g : Nat → Nat → Int32) (p0 : Int32) (z1 z2 : Int32) (sz : Nat) : Array Value → State → Outcome → State → Prop := va_Qi (fun (r : Int32) (_ : Unit) => r = (sDays g p0.toNatClampNeg (D, mny, N, f, 0)).2.2.2.2) (gB G ((cA T na mo nm rs ((sDays g p0.toNatClampNeg (D, mny, N, f, 0)).1) ((sDays g p0.toNatClampNeg (D, mny, N, f, 0)).2.1) x1 rA) ++ (cNs T x1 x2 x3 ((sDays g p0.toNatClampNeg (D, mny, N, f, 0)).2.2.1) ((sDays g p0.toNatClampNeg (D, mny, N, f, 0)).2.2.2.1) g))) (va_A ((cA T na mo nm rs D mny x1 rA) ++ (cNs T x1 x2 x3 N f g)) sz)
set_option maxHeartbeats 4000000 in
set_option maxRecDepth 100000 in
theorem kL_does_7_ok (l : Launch) (hl0 : l.stackTraces = false) (G : va_G) (T : Nat → ClassId) (na mo nm rs : Nat) (D mny : Nat → Int32) (rA : Nat → Nat) (x1 x2 x3 : Nat → Nat) (N f g : Nat → Nat → Int32) (p0 : Int32) (z1 z2 : Int32) (sz : Nat) (hk : (kDays p0) = 0) : Met l yL_does wsL_does ({ frames := 8, cells := 1, slots := 6, locals := 134 } : Room) (PL_does_7_ok G T na mo nm rs D mny rA x1 x2 x3 N f g p0 z1 z2 sz) (QL_does_7_ok G T na mo nm rs D mny rA x1 x2 x3 N f g p0 z1 z2 sz) 1 6 (va_A ((cA T na mo nm rs D mny x1 rA) ++ (cNs T x1 x2 x3 N f g)) sz) := by
  refine va_MetW (cc := cL_does) (maxL := 6) (ret := (some .int)) (hh := [(0, 129, 130, 41), (0, 129, 135, 43), (0, 129, 140, 45)]) (by decide) rfl ?_
  intro p e s m args below meth c s₁ B hml hv
  obtain ⟨rfl, hsz, hP, hK, hD0, hE⟩ := hv
  have hx := B.exec
  have hb := B.bytes
  have hr := B.returns
  have hts := atoms_spec (ws := wsL_does) B.pre
  have hown : s.vm.findClass RL = some m.cls := findClass_of_methodNamed B.named
  have hlocks := B.notSynchronized
  have htab : c.exceptionTable.toList = tableOf [(0, 129, 130, 41), (0, 129, 135, 43), (0, 129, 140, 45)] := vx_table (x := yL_does) B (hts _ List.mem_cons_self)
  subst hsz
  have hD := hD0.self (sz := s.heap.size)
  have hA : ∀ q : Nat, s.heap.size ≤ q → (va_A ((cA T na mo nm rs D mny x1 rA) ++ (cNs T x1 x2 x3 N f g)) s.heap.size) q := fun q h => Or.inr h
  have hS : va_S (va_A ((cA T na mo nm rs D mny x1 rA) ++ (cNs T x1 x2 x3 N f g)) s.heap.size) s.heap s.heap [] := va_S.rf
  have hl := lv_entry ([.ref na, .int 7, .int p0, .int z1, .int z2]) (n := 6) (Nat.le_of_ble_eq_true rfl)
  rw [lg_entry_eq]
  generalize (lg_sl ([.ref na, .int 7, .int p0, .int z1, .int z2]) ++ List.replicate (6 - (lg_sl ([.ref na, .int 7, .int p0, .int z1, .int z2])).length) Slot.unset).toArray = ls at hl ⊢
  have hl : lv_has ls 6 [(0, .ref na), (1, .int 7), (2, .int p0), (3, .int z1), (4, .int z2)] := hl
  have hP : va_P G vwCl ((cA T na mo nm rs D mny x1 rA) ++ (cNs T x1 x2 x3 N f g)) s.heap := hP
  refine lv_iload_n hx hb dL_does_0 rfl (lv_at hl 1 rfl) ?_
  refine lv_if_ne (tgt := 13) hx hb dL_does_1 (by decide) (fun c1 => ?_) (fun c1 => ?_)
  · skip
    refine lv_iload_n hx hb dL_does_13 rfl (lv_at hl 1 rfl) ?_
    refine lv_iconst (v := 1) hx hb dL_does_14 (by decide) ?_
    refine lv_icmp_ne (tgt := 29) hx hb dL_does_15 (by decide) (fun c15 => ?_) (fun c15 => ?_)
    · skip
      refine lv_iload_n hx hb dL_does_29 rfl (lv_at hl 1 rfl) ?_
      refine lv_iconst (v := 2) hx hb dL_does_30 (by decide) ?_
      refine lv_icmp_ne (tgt := 43) hx hb dL_does_31 (by decide) (fun c31 => ?_) (fun c31 => ?_)
      · skip
        refine lv_iload_n hx hb dL_does_43 rfl (lv_at hl 1 rfl) ?_
        refine lv_iconst (v := 3) hx hb dL_does_44 (by decide) ?_
        refine lv_icmp_ne (tgt := 56) hx hb dL_does_45 (by decide) (fun c45 => ?_) (fun c45 => ?_)
        · skip
          refine lv_iload_n hx hb dL_does_56 rfl (lv_at hl 1 rfl) ?_
          refine lv_iconst (v := 4) hx hb dL_does_57 (by decide) ?_
          refine lv_icmp_ne (tgt := 72) hx hb dL_does_58 (by decide) (fun c58 => ?_) (fun c58 => ?_)
          · skip
            refine lv_iload_n hx hb dL_does_72 rfl (lv_at hl 1 rfl) ?_
            refine lv_iconst (v := 5) hx hb dL_does_73 (by decide) ?_
            refine lv_icmp_ne (tgt := 86) hx hb dL_does_74 (by decide) (fun c74 => ?_) (fun c74 => ?_)
            · skip
              refine lv_iload_n hx hb dL_does_86 rfl (lv_at hl 1 rfl) ?_
              refine lv_bipush (v := 6) hx hb dL_does_87 (by decide) ?_
              refine lv_icmp_ne (tgt := 110) hx hb dL_does_89 (by decide) (fun c89 => ?_) (fun c89 => ?_)
              · skip
                refine lv_iload_n hx hb dL_does_110 rfl (lv_at hl 1 rfl) ?_
                refine lv_bipush (v := 7) hx hb dL_does_111 (by decide) ?_
                refine lv_icmp_ne (tgt := 124) hx hb dL_does_113 (by decide) (fun c113 => ?_) (fun c113 => ?_)
                · exact absurd c113 (by decide)
                · skip
                  refine lv_aload_n hx hb dL_does_116 rfl (lv_at hl 0 rfl) ?_
                  refine lv_iload_n hx hb dL_does_117 rfl (lv_at hl 2 rfl) ?_
                  refine gxiT (X := ([] : va_W)) (vx_runV (As := [.int p0]) (rest := []) ⟨hx, hb, hml, hown, hts⟩ (kX2_pass l hl0 G T na mo nm rs D mny rA x1 x2 x3 N f g p0 _) (cwV 1 hts gL_does_X2_pass rfl rfl rfl (by decide +kernel) ⟨Nat.le_of_ble_eq_true rfl, Nat.le_of_ble_eq_true rfl⟩) ⟨gblind, va_recv hK hP (ci := 2) (q0 := 0) rfl rfl, gpreT (X := ([] : va_W)) hE hK hP hD hS hA⟩ rfl rfl hl.1 rfl (lv_room (Nat.le_of_ble_eq_true rfl)) dL_does_118 ⟨Nat.le_of_ble_eq_true rfl, Nat.le_of_ble_eq_true rfl⟩) hP hD hS hA cS_fst (fun E9 ce9 q9 H locs he hP hD hS hce hcv hcl => ?_) (fun r9 H locs hw hP hD hS => ?_)
                  · skip
                    have hP : va_P G vwCl ((cA T na mo nm rs D mny x1 rA) ++ (cNs T x1 x2 x3 N f g)) H := hP
                    have hD : va_D (va_A ((cA T na mo nm rs D mny x1 rA) ++ (cNs T x1 x2 x3 N f g)) s.heap.size) ((cA T na mo nm rs D mny x1 rA) ++ (cNs T x1 x2 x3 N f g)) := hD
                    rcases he with ⟨hk9, rfl⟩ | ⟨hk9, rfl⟩ | ⟨hk9, rfl⟩
                    · skip
                      exact absurd (hk.symm.trans hk9) (by decide)
                    · skip
                      exact absurd (hk.symm.trans hk9) (by decide)
                    · skip
                      exact absurd (hk.symm.trans hk9) (by decide)
                  · skip
                    have hP : va_P G vwCl ((cA T na mo nm rs ((sDays g p0.toNatClampNeg (D, mny, N, f, 0)).1) ((sDays g p0.toNatClampNeg (D, mny, N, f, 0)).2.1) x1 rA) ++ (cNs T x1 x2 x3 ((sDays g p0.toNatClampNeg (D, mny, N, f, 0)).2.2.1) ((sDays g p0.toNatClampNeg (D, mny, N, f, 0)).2.2.2.1) g)) H := hP
                    have hD : va_D (va_A ((cA T na mo nm rs D mny x1 rA) ++ (cNs T x1 x2 x3 N f g)) s.heap.size) ((cA T na mo nm rs ((sDays g p0.toNatClampNeg (D, mny, N, f, 0)).1) ((sDays g p0.toNatClampNeg (D, mny, N, f, 0)).2.1) x1 rA) ++ (cNs T x1 x2 x3 ((sDays g p0.toNatClampNeg (D, mny, N, f, 0)).2.2.1) ((sDays g p0.toNatClampNeg (D, mny, N, f, 0)).2.2.2.1) g)) := hD
                    obtain ⟨hok118, hw⟩ := hw
                    subst hw
                    refine lv_goto (tgt := 129) hx hb dL_does_121 (by decide) ?_
                    exact W.iret (v := (sDays g p0.toNatClampNeg (D, mny, N, f, 0)).2.2.2.2) hx hb hr (fun t ht9 hW => ⟨⟨(sDays g p0.toNatClampNeg (D, mny, N, f, 0)).2.2.2.2, (), rfl, rfl, gBi ht9 (gfin hP (rfl))⟩, hS.F ht9⟩) hS.2.2 dL_does_129
              · exact absurd c89 (by decide)
            · exact absurd c74 (by decide)
          · exact absurd c58 (by decide)
        · exact absurd c45 (by decide)
      · exact absurd c31 (by decide)
    · exact absurd c15 (by decide)
  · exact absurd c1 (by decide)
abbrev PL_does_7_no (G : va_G) (T : Nat → ClassId) (na mo nm rs : Nat) (D mny : Nat → Int32) (rA : Nat → Nat) (x1 x2 x3 : Nat → Nat) (N f g : Nat → Nat → Int32) (p0 : Int32) (z1 z2 : Int32) (sz : Nat) : Array Value → State → Prop := gPc G T [.ref na, .int 7, .int p0, .int z1, .int z2] ((cA T na mo nm rs D mny x1 rA) ++ (cNs T x1 x2 x3 N f g)) sz
abbrev QL_does_7_no (G : va_G) (T : Nat → ClassId) (na mo nm rs : Nat) (D mny : Nat → Int32) (rA : Nat → Nat) (x1 x2 x3 : Nat → Nat) (N f g : Nat → Nat → Int32) (p0 : Int32) (z1 z2 : Int32) (sz : Nat) : Array Value → State → Outcome → State → Prop := va_Qi (fun (r : Int32) (_ : Unit) => r = wD (kDays p0)) (gB G ((cA T na mo nm rs D mny x1 rA) ++ (cNs T x1 x2 x3 N f g))) (va_A ((cA T na mo nm rs D mny x1 rA) ++ (cNs T x1 x2 x3 N f g)) sz)
set_option maxHeartbeats 4000000 in
set_option maxRecDepth 100000 in
theorem kL_does_7_no (l : Launch) (hl0 : l.stackTraces = false) (G : va_G) (T : Nat → ClassId) (na mo nm rs : Nat) (D mny : Nat → Int32) (rA : Nat → Nat) (x1 x2 x3 : Nat → Nat) (N f g : Nat → Nat → Int32) (p0 : Int32) (z1 z2 : Int32) (sz : Nat) (hk : ¬ (kDays p0) = 0) : Met l yL_does wsL_does ({ frames := 8, cells := 1, slots := 6, locals := 134 } : Room) (PL_does_7_no G T na mo nm rs D mny rA x1 x2 x3 N f g p0 z1 z2 sz) (QL_does_7_no G T na mo nm rs D mny rA x1 x2 x3 N f g p0 z1 z2 sz) 1 6 (va_A ((cA T na mo nm rs D mny x1 rA) ++ (cNs T x1 x2 x3 N f g)) sz) := by
  refine va_MetW (cc := cL_does) (maxL := 6) (ret := (some .int)) (hh := [(0, 129, 130, 41), (0, 129, 135, 43), (0, 129, 140, 45)]) (by decide) rfl ?_
  intro p e s m args below meth c s₁ B hml hv
  obtain ⟨rfl, hsz, hP, hK, hD0, hE⟩ := hv
  have hx := B.exec
  have hb := B.bytes
  have hr := B.returns
  have hts := atoms_spec (ws := wsL_does) B.pre
  have hown : s.vm.findClass RL = some m.cls := findClass_of_methodNamed B.named
  have hlocks := B.notSynchronized
  have htab : c.exceptionTable.toList = tableOf [(0, 129, 130, 41), (0, 129, 135, 43), (0, 129, 140, 45)] := vx_table (x := yL_does) B (hts _ List.mem_cons_self)
  subst hsz
  have hD := hD0.self (sz := s.heap.size)
  have hA : ∀ q : Nat, s.heap.size ≤ q → (va_A ((cA T na mo nm rs D mny x1 rA) ++ (cNs T x1 x2 x3 N f g)) s.heap.size) q := fun q h => Or.inr h
  have hS : va_S (va_A ((cA T na mo nm rs D mny x1 rA) ++ (cNs T x1 x2 x3 N f g)) s.heap.size) s.heap s.heap [] := va_S.rf
  have hl := lv_entry ([.ref na, .int 7, .int p0, .int z1, .int z2]) (n := 6) (Nat.le_of_ble_eq_true rfl)
  rw [lg_entry_eq]
  generalize (lg_sl ([.ref na, .int 7, .int p0, .int z1, .int z2]) ++ List.replicate (6 - (lg_sl ([.ref na, .int 7, .int p0, .int z1, .int z2])).length) Slot.unset).toArray = ls at hl ⊢
  have hl : lv_has ls 6 [(0, .ref na), (1, .int 7), (2, .int p0), (3, .int z1), (4, .int z2)] := hl
  have hP : va_P G vwCl ((cA T na mo nm rs D mny x1 rA) ++ (cNs T x1 x2 x3 N f g)) s.heap := hP
  refine lv_iload_n hx hb dL_does_0 rfl (lv_at hl 1 rfl) ?_
  refine lv_if_ne (tgt := 13) hx hb dL_does_1 (by decide) (fun c1 => ?_) (fun c1 => ?_)
  · skip
    refine lv_iload_n hx hb dL_does_13 rfl (lv_at hl 1 rfl) ?_
    refine lv_iconst (v := 1) hx hb dL_does_14 (by decide) ?_
    refine lv_icmp_ne (tgt := 29) hx hb dL_does_15 (by decide) (fun c15 => ?_) (fun c15 => ?_)
    · skip
      refine lv_iload_n hx hb dL_does_29 rfl (lv_at hl 1 rfl) ?_
      refine lv_iconst (v := 2) hx hb dL_does_30 (by decide) ?_
      refine lv_icmp_ne (tgt := 43) hx hb dL_does_31 (by decide) (fun c31 => ?_) (fun c31 => ?_)
      · skip
        refine lv_iload_n hx hb dL_does_43 rfl (lv_at hl 1 rfl) ?_
        refine lv_iconst (v := 3) hx hb dL_does_44 (by decide) ?_
        refine lv_icmp_ne (tgt := 56) hx hb dL_does_45 (by decide) (fun c45 => ?_) (fun c45 => ?_)
        · skip
          refine lv_iload_n hx hb dL_does_56 rfl (lv_at hl 1 rfl) ?_
          refine lv_iconst (v := 4) hx hb dL_does_57 (by decide) ?_
          refine lv_icmp_ne (tgt := 72) hx hb dL_does_58 (by decide) (fun c58 => ?_) (fun c58 => ?_)
          · skip
            refine lv_iload_n hx hb dL_does_72 rfl (lv_at hl 1 rfl) ?_
            refine lv_iconst (v := 5) hx hb dL_does_73 (by decide) ?_
            refine lv_icmp_ne (tgt := 86) hx hb dL_does_74 (by decide) (fun c74 => ?_) (fun c74 => ?_)
            · skip
              refine lv_iload_n hx hb dL_does_86 rfl (lv_at hl 1 rfl) ?_
              refine lv_bipush (v := 6) hx hb dL_does_87 (by decide) ?_
              refine lv_icmp_ne (tgt := 110) hx hb dL_does_89 (by decide) (fun c89 => ?_) (fun c89 => ?_)
              · skip
                refine lv_iload_n hx hb dL_does_110 rfl (lv_at hl 1 rfl) ?_
                refine lv_bipush (v := 7) hx hb dL_does_111 (by decide) ?_
                refine lv_icmp_ne (tgt := 124) hx hb dL_does_113 (by decide) (fun c113 => ?_) (fun c113 => ?_)
                · exact absurd c113 (by decide)
                · skip
                  refine lv_aload_n hx hb dL_does_116 rfl (lv_at hl 0 rfl) ?_
                  refine lv_iload_n hx hb dL_does_117 rfl (lv_at hl 2 rfl) ?_
                  refine gxiT (X := ([] : va_W)) (vx_runV (As := [.int p0]) (rest := []) ⟨hx, hb, hml, hown, hts⟩ (kX2_pass l hl0 G T na mo nm rs D mny rA x1 x2 x3 N f g p0 _) (cwV 1 hts gL_does_X2_pass rfl rfl rfl (by decide +kernel) ⟨Nat.le_of_ble_eq_true rfl, Nat.le_of_ble_eq_true rfl⟩) ⟨gblind, va_recv hK hP (ci := 2) (q0 := 0) rfl rfl, gpreT (X := ([] : va_W)) hE hK hP hD hS hA⟩ rfl rfl hl.1 rfl (lv_room (Nat.le_of_ble_eq_true rfl)) dL_does_118 ⟨Nat.le_of_ble_eq_true rfl, Nat.le_of_ble_eq_true rfl⟩) hP hD hS hA cS_fst (fun E9 ce9 q9 H locs he hP hD hS hce hcv hcl => ?_) (fun r9 H locs hw hP hD hS => ?_)
                  · skip
                    have hP : va_P G vwCl ((cA T na mo nm rs D mny x1 rA) ++ (cNs T x1 x2 x3 N f g)) H := hP
                    have hD : va_D (va_A ((cA T na mo nm rs D mny x1 rA) ++ (cNs T x1 x2 x3 N f g)) s.heap.size) ((cA T na mo nm rs D mny x1 rA) ++ (cNs T x1 x2 x3 N f g)) := hD
                    rcases he with ⟨hk9, rfl⟩ | ⟨hk9, rfl⟩ | ⟨hk9, rfl⟩
                    · skip
                      exact absurd hk9 (by simp only [kDays]; repeat (first | split | decide))
                    · skip
                      refine vx_catch (own := RL) (name := "java/lang/IllegalArgumentException") hown [⟨0, 129, 130, 41⟩] ⟨0, 129, 135, 43⟩ [⟨0, 129, 140, 45⟩] (htab.trans rfl) (fun z hz => by cases List.mem_singleton.mp hz; exact Or.inr ⟨by decide, "java/lang/IndexOutOfBoundsException", hts (.classLink RL 41 "java/lang/IndexOutOfBoundsException") (by decide +kernel), hE.2.1.1⟩) rfl (by decide) (hts (.classLink RL 43 "java/lang/IllegalArgumentException") (by decide +kernel)) (va_Nw.use rfl (hE.1 (.castable "java/lang/IllegalArgumentException" "java/lang/IllegalArgumentException") (by decide +kernel))) hce hcv hcl ?_
                      refine lv_astore (lv' := [(5, .ref q9), (0, .ref na), (1, .int 7), (2, .int p0), (3, .int z1), (4, .int z2)]) hx hb dL_does_135 hl (by decide) rfl (fun ls hl => ?_)
                      refine lv_bipush (v := (-20)) hx hb dL_does_137 (by decide) ?_
                      exact W.iret (v := (-20)) hx hb hr (fun t ht9 hW => ⟨⟨(-20), (), rfl, by rw [hk9]; rfl, gBi ht9 (gfin hP (rfl))⟩, hS.F ht9⟩) hS.2.2 dL_does_139
                    · skip
                      exact absurd hk9 (by simp only [kDays]; repeat (first | split | decide))
                  · skip
                    have hP : va_P G vwCl ((cA T na mo nm rs ((sDays g p0.toNatClampNeg (D, mny, N, f, 0)).1) ((sDays g p0.toNatClampNeg (D, mny, N, f, 0)).2.1) x1 rA) ++ (cNs T x1 x2 x3 ((sDays g p0.toNatClampNeg (D, mny, N, f, 0)).2.2.1) ((sDays g p0.toNatClampNeg (D, mny, N, f, 0)).2.2.2.1) g)) H := hP
                    have hD : va_D (va_A ((cA T na mo nm rs D mny x1 rA) ++ (cNs T x1 x2 x3 N f g)) s.heap.size) ((cA T na mo nm rs ((sDays g p0.toNatClampNeg (D, mny, N, f, 0)).1) ((sDays g p0.toNatClampNeg (D, mny, N, f, 0)).2.1) x1 rA) ++ (cNs T x1 x2 x3 ((sDays g p0.toNatClampNeg (D, mny, N, f, 0)).2.2.1) ((sDays g p0.toNatClampNeg (D, mny, N, f, 0)).2.2.2.1) g)) := hD
                    exact absurd hw.1 hk
              · exact absurd c89 (by decide)
            · exact absurd c74 (by decide)
          · exact absurd c58 (by decide)
        · exact absurd c45 (by decide)
      · exact absurd c31 (by decide)
    · exact absurd c15 (by decide)
  · exact absurd c1 (by decide)
abbrev PL_does_8_ok (G : va_G) (T : Nat → ClassId) (na mo nm rs : Nat) (D mny : Nat → Int32) (nA rA : Nat → Nat) (i y2 y3 y4 y5 : Nat) (rk rf rg rh : Nat → Int32) (p0 : Int32) (z1 z2 : Int32) (sz : Nat) : Array Value → State → Prop := gPc G T [.ref na, .int 8, .int p0, .int z1, .int z2] ((cA T na mo nm rs D mny nA rA) ++ (cR T (rA i) y2 y3 y4 y5 rk rf rg rh)) sz
abbrev QL_does_8_ok (G : va_G) (T : Nat → ClassId) (na mo nm rs : Nat) (D mny : Nat → Int32) (nA rA : Nat → Nat) (i y2 y3 y4 y5 : Nat) (rk rf rg rh : Nat → Int32) (p0 : Int32) (z1 z2 : Int32) (sz : Nat) : Array Value → State → Outcome → State → Prop := va_Qi (fun (r : Int32) (_ : Unit) => r = sKept rk 16) (gB G ((cA T na mo nm rs D mny nA rA) ++ (cR T (rA i) y2 y3 y4 y5 (fun _ => 0) rf rg rh))) (va_A ((cA T na mo nm rs D mny nA rA) ++ (cR T (rA i) y2 y3 y4 y5 rk rf rg rh)) sz)
set_option maxHeartbeats 4000000 in
set_option maxRecDepth 100000 in
theorem kL_does_8_ok (l : Launch) (hl0 : l.stackTraces = false) (G : va_G) (T : Nat → ClassId) (na mo nm rs : Nat) (D mny : Nat → Int32) (nA rA : Nat → Nat) (i y2 y3 y4 y5 : Nat) (rk rf rg rh : Nat → Int32) (p0 : Int32) (z1 z2 : Int32) (sz : Nat) (hr9 : okI p0 3 = true → p0 = nI i ∧ i < 3) (hk : (kRes p0) = 0) : Met l yL_does wsL_does ({ frames := 8, cells := 1, slots := 6, locals := 123 } : Room) (PL_does_8_ok G T na mo nm rs D mny nA rA i y2 y3 y4 y5 rk rf rg rh p0 z1 z2 sz) (QL_does_8_ok G T na mo nm rs D mny nA rA i y2 y3 y4 y5 rk rf rg rh p0 z1 z2 sz) 1 6 (va_A ((cA T na mo nm rs D mny nA rA) ++ (cR T (rA i) y2 y3 y4 y5 rk rf rg rh)) sz) := by
  refine va_MetW (cc := cL_does) (maxL := 6) (ret := (some .int)) (hh := [(0, 129, 130, 41), (0, 129, 135, 43), (0, 129, 140, 45)]) (by decide) rfl ?_
  intro p e s m args below meth c s₁ B hml hv
  obtain ⟨rfl, hsz, hP, hK, hD0, hE⟩ := hv
  have hx := B.exec
  have hb := B.bytes
  have hr := B.returns
  have hts := atoms_spec (ws := wsL_does) B.pre
  have hown : s.vm.findClass RL = some m.cls := findClass_of_methodNamed B.named
  have hlocks := B.notSynchronized
  have htab : c.exceptionTable.toList = tableOf [(0, 129, 130, 41), (0, 129, 135, 43), (0, 129, 140, 45)] := vx_table (x := yL_does) B (hts _ List.mem_cons_self)
  subst hsz
  have hD := hD0.self (sz := s.heap.size)
  have hA : ∀ q : Nat, s.heap.size ≤ q → (va_A ((cA T na mo nm rs D mny nA rA) ++ (cR T (rA i) y2 y3 y4 y5 rk rf rg rh)) s.heap.size) q := fun q h => Or.inr h
  have hS : va_S (va_A ((cA T na mo nm rs D mny nA rA) ++ (cR T (rA i) y2 y3 y4 y5 rk rf rg rh)) s.heap.size) s.heap s.heap [] := va_S.rf
  have hl := lv_entry ([.ref na, .int 8, .int p0, .int z1, .int z2]) (n := 6) (Nat.le_of_ble_eq_true rfl)
  rw [lg_entry_eq]
  generalize (lg_sl ([.ref na, .int 8, .int p0, .int z1, .int z2]) ++ List.replicate (6 - (lg_sl ([.ref na, .int 8, .int p0, .int z1, .int z2])).length) Slot.unset).toArray = ls at hl ⊢
  have hl : lv_has ls 6 [(0, .ref na), (1, .int 8), (2, .int p0), (3, .int z1), (4, .int z2)] := hl
  have hP : va_P G vwCl ((cA T na mo nm rs D mny nA rA) ++ (cR T (rA i) y2 y3 y4 y5 rk rf rg rh)) s.heap := hP
  refine lv_iload_n hx hb dL_does_0 rfl (lv_at hl 1 rfl) ?_
  refine lv_if_ne (tgt := 13) hx hb dL_does_1 (by decide) (fun c1 => ?_) (fun c1 => ?_)
  · skip
    refine lv_iload_n hx hb dL_does_13 rfl (lv_at hl 1 rfl) ?_
    refine lv_iconst (v := 1) hx hb dL_does_14 (by decide) ?_
    refine lv_icmp_ne (tgt := 29) hx hb dL_does_15 (by decide) (fun c15 => ?_) (fun c15 => ?_)
    · skip
      refine lv_iload_n hx hb dL_does_29 rfl (lv_at hl 1 rfl) ?_
      refine lv_iconst (v := 2) hx hb dL_does_30 (by decide) ?_
      refine lv_icmp_ne (tgt := 43) hx hb dL_does_31 (by decide) (fun c31 => ?_) (fun c31 => ?_)
      · skip
        refine lv_iload_n hx hb dL_does_43 rfl (lv_at hl 1 rfl) ?_
        refine lv_iconst (v := 3) hx hb dL_does_44 (by decide) ?_
        refine lv_icmp_ne (tgt := 56) hx hb dL_does_45 (by decide) (fun c45 => ?_) (fun c45 => ?_)
        · skip
          refine lv_iload_n hx hb dL_does_56 rfl (lv_at hl 1 rfl) ?_
          refine lv_iconst (v := 4) hx hb dL_does_57 (by decide) ?_
          refine lv_icmp_ne (tgt := 72) hx hb dL_does_58 (by decide) (fun c58 => ?_) (fun c58 => ?_)
          · skip
            refine lv_iload_n hx hb dL_does_72 rfl (lv_at hl 1 rfl) ?_
            refine lv_iconst (v := 5) hx hb dL_does_73 (by decide) ?_
            refine lv_icmp_ne (tgt := 86) hx hb dL_does_74 (by decide) (fun c74 => ?_) (fun c74 => ?_)
            · skip
              refine lv_iload_n hx hb dL_does_86 rfl (lv_at hl 1 rfl) ?_
              refine lv_bipush (v := 6) hx hb dL_does_87 (by decide) ?_
              refine lv_icmp_ne (tgt := 110) hx hb dL_does_89 (by decide) (fun c89 => ?_) (fun c89 => ?_)
              · skip
                refine lv_iload_n hx hb dL_does_110 rfl (lv_at hl 1 rfl) ?_
                refine lv_bipush (v := 7) hx hb dL_does_111 (by decide) ?_
                refine lv_icmp_ne (tgt := 124) hx hb dL_does_113 (by decide) (fun c113 => ?_) (fun c113 => ?_)
                · skip
                  refine lv_aload_n hx hb dL_does_124 rfl (lv_at hl 0 rfl) ?_
                  refine lv_iload_n hx hb dL_does_125 rfl (lv_at hl 2 rfl) ?_
                  refine gxi (vx_runV (As := [.int p0]) (rest := []) ⟨hx, hb, hml, hown, hts⟩ (kX2_flush l hl0 G T na mo nm rs D mny nA rA i y2 y3 y4 y5 rk rf rg rh p0 _ hr9) (cwV 1 hts gL_does_X2_flush rfl rfl rfl (by decide +kernel) ⟨Nat.le_of_ble_eq_true rfl, Nat.le_of_ble_eq_true rfl⟩) ⟨gblind, va_recv hK hP (ci := 2) (q0 := 0) rfl rfl, gpre hE hK hP hD hS hA [0, 1, 2, 3, 4, 5, 6, 7, 8] rfl rfl⟩ rfl rfl hl.1 rfl (lv_room (Nat.le_of_ble_eq_true rfl)) dL_does_126 ⟨Nat.le_of_ble_eq_true rfl, Nat.le_of_ble_eq_true rfl⟩) hP hD hS hA [0, 1, 2, 3, 4, 5, 6, 7, 8] rfl rfl (fun E9 ce9 q9 H locs he hP hD hS hce hcv hcl => ?_) (fun r9 H locs hw hP hD hS => ?_)
                  · skip
                    have hP : va_P G vwCl ((cA T na mo nm rs D mny nA rA) ++ (cR T (rA i) y2 y3 y4 y5 rk rf rg rh)) H := hP
                    have hD : va_D (va_A ((cA T na mo nm rs D mny nA rA) ++ (cR T (rA i) y2 y3 y4 y5 rk rf rg rh)) s.heap.size) ((cA T na mo nm rs D mny nA rA) ++ (cR T (rA i) y2 y3 y4 y5 rk rf rg rh)) := hD
                    rcases he with ⟨hk9, rfl⟩ | ⟨hk9, rfl⟩ | ⟨hk9, rfl⟩
                    · skip
                      exact absurd (hk.symm.trans hk9) (by decide)
                    · skip
                      exact absurd (hk.symm.trans hk9) (by decide)
                    · skip
                      exact absurd (hk.symm.trans hk9) (by decide)
                  · skip
                    have hP : va_P G vwCl ((cA T na mo nm rs D mny nA rA) ++ (cR T (rA i) y2 y3 y4 y5 (fun _ => 0) rf rg rh)) H := hP
                    have hD : va_D (va_A ((cA T na mo nm rs D mny nA rA) ++ (cR T (rA i) y2 y3 y4 y5 rk rf rg rh)) s.heap.size) ((cA T na mo nm rs D mny nA rA) ++ (cR T (rA i) y2 y3 y4 y5 (fun _ => 0) rf rg rh)) := hD
                    obtain ⟨hok126, hw⟩ := hw
                    subst hw
                    exact W.iret (v := sKept rk 16) hx hb hr (fun t ht9 hW => ⟨⟨sKept rk 16, (), rfl, rfl, gBi ht9 (gfin hP (rfl))⟩, hS.F ht9⟩) hS.2.2 dL_does_129
                · exact absurd c113 (by decide)
              · exact absurd c89 (by decide)
            · exact absurd c74 (by decide)
          · exact absurd c58 (by decide)
        · exact absurd c45 (by decide)
      · exact absurd c31 (by decide)
    · exact absurd c15 (by decide)
  · exact absurd c1 (by decide)
abbrev PL_does_8_no (G : va_G) (T : Nat → ClassId) (na mo nm rs : Nat) (D mny : Nat → Int32) (nA rA : Nat → Nat) (i y2 y3 y4 y5 : Nat) (rk rf rg rh : Nat → Int32) (p0 : Int32) (z1 z2 : Int32) (sz : Nat) : Array Value → State → Prop := gPc G T [.ref na, .int 8, .int p0, .int z1, .int z2] ((cA T na mo nm rs D mny nA rA) ++ (cR T (rA i) y2 y3 y4 y5 rk rf rg rh)) sz
abbrev QL_does_8_no (G : va_G) (T : Nat → ClassId) (na mo nm rs : Nat) (D mny : Nat → Int32) (nA rA : Nat → Nat) (i y2 y3 y4 y5 : Nat) (rk rf rg rh : Nat → Int32) (p0 : Int32) (z1 z2 : Int32) (sz : Nat) : Array Value → State → Outcome → State → Prop := va_Qi (fun (r : Int32) (_ : Unit) => r = wD (kRes p0)) (gB G ((cA T na mo nm rs D mny nA rA) ++ (cR T (rA i) y2 y3 y4 y5 rk rf rg rh))) (va_A ((cA T na mo nm rs D mny nA rA) ++ (cR T (rA i) y2 y3 y4 y5 rk rf rg rh)) sz)
set_option maxHeartbeats 4000000 in
set_option maxRecDepth 100000 in
theorem kL_does_8_no (l : Launch) (hl0 : l.stackTraces = false) (G : va_G) (T : Nat → ClassId) (na mo nm rs : Nat) (D mny : Nat → Int32) (nA rA : Nat → Nat) (i y2 y3 y4 y5 : Nat) (rk rf rg rh : Nat → Int32) (p0 : Int32) (z1 z2 : Int32) (sz : Nat) (hr9 : okI p0 3 = true → p0 = nI i ∧ i < 3) (hk : ¬ (kRes p0) = 0) : Met l yL_does wsL_does ({ frames := 8, cells := 1, slots := 6, locals := 123 } : Room) (PL_does_8_no G T na mo nm rs D mny nA rA i y2 y3 y4 y5 rk rf rg rh p0 z1 z2 sz) (QL_does_8_no G T na mo nm rs D mny nA rA i y2 y3 y4 y5 rk rf rg rh p0 z1 z2 sz) 1 6 (va_A ((cA T na mo nm rs D mny nA rA) ++ (cR T (rA i) y2 y3 y4 y5 rk rf rg rh)) sz) := by
  refine va_MetW (cc := cL_does) (maxL := 6) (ret := (some .int)) (hh := [(0, 129, 130, 41), (0, 129, 135, 43), (0, 129, 140, 45)]) (by decide) rfl ?_
  intro p e s m args below meth c s₁ B hml hv
  obtain ⟨rfl, hsz, hP, hK, hD0, hE⟩ := hv
  have hx := B.exec
  have hb := B.bytes
  have hr := B.returns
  have hts := atoms_spec (ws := wsL_does) B.pre
  have hown : s.vm.findClass RL = some m.cls := findClass_of_methodNamed B.named
  have hlocks := B.notSynchronized
  have htab : c.exceptionTable.toList = tableOf [(0, 129, 130, 41), (0, 129, 135, 43), (0, 129, 140, 45)] := vx_table (x := yL_does) B (hts _ List.mem_cons_self)
  subst hsz
  have hD := hD0.self (sz := s.heap.size)
  have hA : ∀ q : Nat, s.heap.size ≤ q → (va_A ((cA T na mo nm rs D mny nA rA) ++ (cR T (rA i) y2 y3 y4 y5 rk rf rg rh)) s.heap.size) q := fun q h => Or.inr h
  have hS : va_S (va_A ((cA T na mo nm rs D mny nA rA) ++ (cR T (rA i) y2 y3 y4 y5 rk rf rg rh)) s.heap.size) s.heap s.heap [] := va_S.rf
  have hl := lv_entry ([.ref na, .int 8, .int p0, .int z1, .int z2]) (n := 6) (Nat.le_of_ble_eq_true rfl)
  rw [lg_entry_eq]
  generalize (lg_sl ([.ref na, .int 8, .int p0, .int z1, .int z2]) ++ List.replicate (6 - (lg_sl ([.ref na, .int 8, .int p0, .int z1, .int z2])).length) Slot.unset).toArray = ls at hl ⊢
  have hl : lv_has ls 6 [(0, .ref na), (1, .int 8), (2, .int p0), (3, .int z1), (4, .int z2)] := hl
  have hP : va_P G vwCl ((cA T na mo nm rs D mny nA rA) ++ (cR T (rA i) y2 y3 y4 y5 rk rf rg rh)) s.heap := hP
  refine lv_iload_n hx hb dL_does_0 rfl (lv_at hl 1 rfl) ?_
  refine lv_if_ne (tgt := 13) hx hb dL_does_1 (by decide) (fun c1 => ?_) (fun c1 => ?_)
  · skip
    refine lv_iload_n hx hb dL_does_13 rfl (lv_at hl 1 rfl) ?_
    refine lv_iconst (v := 1) hx hb dL_does_14 (by decide) ?_
    refine lv_icmp_ne (tgt := 29) hx hb dL_does_15 (by decide) (fun c15 => ?_) (fun c15 => ?_)
    · skip
      refine lv_iload_n hx hb dL_does_29 rfl (lv_at hl 1 rfl) ?_
      refine lv_iconst (v := 2) hx hb dL_does_30 (by decide) ?_
      refine lv_icmp_ne (tgt := 43) hx hb dL_does_31 (by decide) (fun c31 => ?_) (fun c31 => ?_)
      · skip
        refine lv_iload_n hx hb dL_does_43 rfl (lv_at hl 1 rfl) ?_
        refine lv_iconst (v := 3) hx hb dL_does_44 (by decide) ?_
        refine lv_icmp_ne (tgt := 56) hx hb dL_does_45 (by decide) (fun c45 => ?_) (fun c45 => ?_)
        · skip
          refine lv_iload_n hx hb dL_does_56 rfl (lv_at hl 1 rfl) ?_
          refine lv_iconst (v := 4) hx hb dL_does_57 (by decide) ?_
          refine lv_icmp_ne (tgt := 72) hx hb dL_does_58 (by decide) (fun c58 => ?_) (fun c58 => ?_)
          · skip
            refine lv_iload_n hx hb dL_does_72 rfl (lv_at hl 1 rfl) ?_
            refine lv_iconst (v := 5) hx hb dL_does_73 (by decide) ?_
            refine lv_icmp_ne (tgt := 86) hx hb dL_does_74 (by decide) (fun c74 => ?_) (fun c74 => ?_)
            · skip
              refine lv_iload_n hx hb dL_does_86 rfl (lv_at hl 1 rfl) ?_
              refine lv_bipush (v := 6) hx hb dL_does_87 (by decide) ?_
              refine lv_icmp_ne (tgt := 110) hx hb dL_does_89 (by decide) (fun c89 => ?_) (fun c89 => ?_)
              · skip
                refine lv_iload_n hx hb dL_does_110 rfl (lv_at hl 1 rfl) ?_
                refine lv_bipush (v := 7) hx hb dL_does_111 (by decide) ?_
                refine lv_icmp_ne (tgt := 124) hx hb dL_does_113 (by decide) (fun c113 => ?_) (fun c113 => ?_)
                · skip
                  refine lv_aload_n hx hb dL_does_124 rfl (lv_at hl 0 rfl) ?_
                  refine lv_iload_n hx hb dL_does_125 rfl (lv_at hl 2 rfl) ?_
                  refine gxi (vx_runV (As := [.int p0]) (rest := []) ⟨hx, hb, hml, hown, hts⟩ (kX2_flush l hl0 G T na mo nm rs D mny nA rA i y2 y3 y4 y5 rk rf rg rh p0 _ hr9) (cwV 1 hts gL_does_X2_flush rfl rfl rfl (by decide +kernel) ⟨Nat.le_of_ble_eq_true rfl, Nat.le_of_ble_eq_true rfl⟩) ⟨gblind, va_recv hK hP (ci := 2) (q0 := 0) rfl rfl, gpre hE hK hP hD hS hA [0, 1, 2, 3, 4, 5, 6, 7, 8] rfl rfl⟩ rfl rfl hl.1 rfl (lv_room (Nat.le_of_ble_eq_true rfl)) dL_does_126 ⟨Nat.le_of_ble_eq_true rfl, Nat.le_of_ble_eq_true rfl⟩) hP hD hS hA [0, 1, 2, 3, 4, 5, 6, 7, 8] rfl rfl (fun E9 ce9 q9 H locs he hP hD hS hce hcv hcl => ?_) (fun r9 H locs hw hP hD hS => ?_)
                  · skip
                    have hP : va_P G vwCl ((cA T na mo nm rs D mny nA rA) ++ (cR T (rA i) y2 y3 y4 y5 rk rf rg rh)) H := hP
                    have hD : va_D (va_A ((cA T na mo nm rs D mny nA rA) ++ (cR T (rA i) y2 y3 y4 y5 rk rf rg rh)) s.heap.size) ((cA T na mo nm rs D mny nA rA) ++ (cR T (rA i) y2 y3 y4 y5 rk rf rg rh)) := hD
                    rcases he with ⟨hk9, rfl⟩ | ⟨hk9, rfl⟩ | ⟨hk9, rfl⟩
                    · skip
                      refine vx_catch (own := RL) (name := "java/lang/IndexOutOfBoundsException") hown [] ⟨0, 129, 130, 41⟩ [⟨0, 129, 135, 43⟩, ⟨0, 129, 140, 45⟩] (htab.trans rfl) (fun z hz => nomatch hz) rfl (by decide) (hts (.classLink RL 41 "java/lang/IndexOutOfBoundsException") (by decide +kernel)) (va_Nw.use rfl (hE.1 (.castable "java/lang/IndexOutOfBoundsException" "java/lang/IndexOutOfBoundsException") (by decide +kernel))) hce hcv hcl ?_
                      refine lv_astore (lv' := [(5, .ref q9), (0, .ref na), (1, .int 8), (2, .int p0), (3, .int z1), (4, .int z2)]) hx hb dL_does_130 hl (by decide) rfl (fun ls hl => ?_)
                      refine lv_bipush (v := (-30)) hx hb dL_does_132 (by decide) ?_
                      exact W.iret (v := (-30)) hx hb hr (fun t ht9 hW => ⟨⟨(-30), (), rfl, by rw [hk9]; rfl, gBi ht9 (gfin hP (rfl))⟩, hS.F ht9⟩) hS.2.2 dL_does_134
                    · skip
                      exact absurd hk9 (by simp only [kRes]; repeat (first | split | decide))
                    · skip
                      exact absurd hk9 (by simp only [kRes]; repeat (first | split | decide))
                  · skip
                    have hP : va_P G vwCl ((cA T na mo nm rs D mny nA rA) ++ (cR T (rA i) y2 y3 y4 y5 (fun _ => 0) rf rg rh)) H := hP
                    have hD : va_D (va_A ((cA T na mo nm rs D mny nA rA) ++ (cR T (rA i) y2 y3 y4 y5 rk rf rg rh)) s.heap.size) ((cA T na mo nm rs D mny nA rA) ++ (cR T (rA i) y2 y3 y4 y5 (fun _ => 0) rf rg rh)) := hD
                    exact absurd hw.1 hk
                · exact absurd c113 (by decide)
              · exact absurd c89 (by decide)
            · exact absurd c74 (by decide)
          · exact absurd c58 (by decide)
        · exact absurd c45 (by decide)
      · exact absurd c31 (by decide)
    · exact absurd c15 (by decide)
  · exact absurd c1 (by decide)
abbrev PL_asks_0_ok (G : va_G) (T : Nat → ClassId) (na mo nm rs : Nat) (D mny : Nat → Int32) (nA rA : Nat → Nat) (p0 : Int32) (i : Nat) (z1 : Int32) (sz : Nat) : Array Value → State → Prop := gPc G T [.ref na, .int 0, .int p0, .int z1] (cA T na mo nm rs D mny nA rA) sz
abbrev QL_asks_0_ok (G : va_G) (T : Nat → ClassId) (na mo nm rs : Nat) (D mny : Nat → Int32) (nA rA : Nat → Nat) (p0 : Int32) (i : Nat) (z1 : Int32) (sz : Nat) : Array Value → State → Outcome → State → Prop := va_Qi (fun (r : Int32) (_ : Unit) => r = mny i) (gB G (cA T na mo nm rs D mny nA rA)) (va_A (cA T na mo nm rs D mny nA rA) sz)
set_option maxHeartbeats 4000000 in
set_option maxRecDepth 100000 in
theorem kL_asks_0_ok (l : Launch) (hl0 : l.stackTraces = false) (G : va_G) (T : Nat → ClassId) (na mo nm rs : Nat) (D mny : Nat → Int32) (nA rA : Nat → Nat) (p0 : Int32) (i : Nat) (z1 : Int32) (sz : Nat) (hi : okI p0 6 = true → p0 = nI i ∧ i < 6) (hk : (kOwn p0) = 0) : Met l yL_asks wsL_asks ({ frames := 8, cells := 1, slots := 6, locals := 123 } : Room) (PL_asks_0_ok G T na mo nm rs D mny nA rA p0 i z1 sz) (QL_asks_0_ok G T na mo nm rs D mny nA rA p0 i z1 sz) 1 6 (va_A (cA T na mo nm rs D mny nA rA) sz) := by
  refine va_MetW (cc := cL_asks) (maxL := 5) (ret := (some .int)) (hh := [(0, 107, 108, 41)]) (by decide) rfl ?_
  intro p e s m args below meth c s₁ B hml hv
  obtain ⟨rfl, hsz, hP, hK, hD0, hE⟩ := hv
  have hx := B.exec
  have hb := B.bytes
  have hr := B.returns
  have hts := atoms_spec (ws := wsL_asks) B.pre
  have hown : s.vm.findClass RL = some m.cls := findClass_of_methodNamed B.named
  have hlocks := B.notSynchronized
  have htab : c.exceptionTable.toList = tableOf [(0, 107, 108, 41)] := vx_table (x := yL_asks) B (hts _ List.mem_cons_self)
  subst hsz
  have hD := hD0.self (sz := s.heap.size)
  have hA : ∀ q : Nat, s.heap.size ≤ q → (va_A (cA T na mo nm rs D mny nA rA) s.heap.size) q := fun q h => Or.inr h
  have hS : va_S (va_A (cA T na mo nm rs D mny nA rA) s.heap.size) s.heap s.heap [] := va_S.rf
  have hl := lv_entry ([.ref na, .int 0, .int p0, .int z1]) (n := 5) (Nat.le_of_ble_eq_true rfl)
  rw [lg_entry_eq]
  generalize (lg_sl ([.ref na, .int 0, .int p0, .int z1]) ++ List.replicate (5 - (lg_sl ([.ref na, .int 0, .int p0, .int z1])).length) Slot.unset).toArray = ls at hl ⊢
  have hl : lv_has ls 5 [(0, .ref na), (1, .int 0), (2, .int p0), (3, .int z1)] := hl
  have hP : va_P G vwCl (cA T na mo nm rs D mny nA rA) s.heap := hP
  refine lv_iload_n hx hb dL_asks_0 rfl (lv_at hl 1 rfl) ?_
  refine lv_if_ne (tgt := 12) hx hb dL_asks_1 (by decide) (fun c1 => ?_) (fun c1 => ?_)
  · exact absurd c1 (by decide)
  · skip
    refine lv_aload_n hx hb dL_asks_4 rfl (lv_at hl 0 rfl) ?_
    refine lv_iload_n hx hb dL_asks_5 rfl (lv_at hl 2 rfl) ?_
    refine gxi (vx_runV (As := [.int p0]) (rest := []) ⟨hx, hb, hml, hown, hts⟩ (kX2_funds l hl0 G T na mo nm rs D mny nA rA p0 i _ hi) (cwV 1 hts gL_asks_X2_funds rfl rfl rfl (by decide +kernel) ⟨Nat.le_of_ble_eq_true rfl, Nat.le_of_ble_eq_true rfl⟩) ⟨gblind, va_recv hK hP (ci := 2) (q0 := 0) rfl rfl, gpre hE hK hP hD hS hA [0, 1, 2, 3] rfl rfl⟩ rfl rfl hl.1 rfl (lv_room (Nat.le_of_ble_eq_true rfl)) dL_asks_6 ⟨Nat.le_of_ble_eq_true rfl, Nat.le_of_ble_eq_true rfl⟩) hP hD hS hA [0, 1, 2, 3] rfl rfl (fun E9 ce9 q9 H locs he hP hD hS hce hcv hcl => ?_) (fun r9 H locs hw hP hD hS => ?_)
    · skip
      have hP : va_P G vwCl (cA T na mo nm rs D mny nA rA) H := hP
      have hD : va_D (va_A (cA T na mo nm rs D mny nA rA) s.heap.size) (cA T na mo nm rs D mny nA rA) := hD
      rcases he with ⟨hk9, rfl⟩ | ⟨hk9, rfl⟩ | ⟨hk9, rfl⟩
      · skip
        exact absurd (hk.symm.trans hk9) (by decide)
      · skip
        exact absurd (hk.symm.trans hk9) (by decide)
      · skip
        exact absurd (hk.symm.trans hk9) (by decide)
    · skip
      have hP : va_P G vwCl (cA T na mo nm rs D mny nA rA) H := hP
      have hD : va_D (va_A (cA T na mo nm rs D mny nA rA) s.heap.size) (cA T na mo nm rs D mny nA rA) := hD
      obtain ⟨hok6, hw⟩ := hw
      subst hw
      refine lv_goto (tgt := 107) hx hb dL_asks_9 (by decide) ?_
      exact W.iret (v := mny i) hx hb hr (fun t ht9 hW => ⟨⟨mny i, (), rfl, rfl, gBi ht9 (gfin hP (rfl))⟩, hS.F ht9⟩) hS.2.2 dL_asks_107
abbrev PL_asks_0_no (G : va_G) (T : Nat → ClassId) (na mo nm rs : Nat) (D mny : Nat → Int32) (nA rA : Nat → Nat) (p0 : Int32) (i : Nat) (z1 : Int32) (sz : Nat) : Array Value → State → Prop := gPc G T [.ref na, .int 0, .int p0, .int z1] (cA T na mo nm rs D mny nA rA) sz
abbrev QL_asks_0_no (G : va_G) (T : Nat → ClassId) (na mo nm rs : Nat) (D mny : Nat → Int32) (nA rA : Nat → Nat) (p0 : Int32) (i : Nat) (z1 : Int32) (sz : Nat) : Array Value → State → Outcome → State → Prop := va_Qi (fun (r : Int32) (_ : Unit) => r = wD (kOwn p0)) (gB G (cA T na mo nm rs D mny nA rA)) (va_A (cA T na mo nm rs D mny nA rA) sz)
set_option maxHeartbeats 4000000 in
set_option maxRecDepth 100000 in
theorem kL_asks_0_no (l : Launch) (hl0 : l.stackTraces = false) (G : va_G) (T : Nat → ClassId) (na mo nm rs : Nat) (D mny : Nat → Int32) (nA rA : Nat → Nat) (p0 : Int32) (i : Nat) (z1 : Int32) (sz : Nat) (hi : okI p0 6 = true → p0 = nI i ∧ i < 6) (hk : ¬ (kOwn p0) = 0) : Met l yL_asks wsL_asks ({ frames := 8, cells := 1, slots := 6, locals := 123 } : Room) (PL_asks_0_no G T na mo nm rs D mny nA rA p0 i z1 sz) (QL_asks_0_no G T na mo nm rs D mny nA rA p0 i z1 sz) 1 6 (va_A (cA T na mo nm rs D mny nA rA) sz) := by
  refine va_MetW (cc := cL_asks) (maxL := 5) (ret := (some .int)) (hh := [(0, 107, 108, 41)]) (by decide) rfl ?_
  intro p e s m args below meth c s₁ B hml hv
  obtain ⟨rfl, hsz, hP, hK, hD0, hE⟩ := hv
  have hx := B.exec
  have hb := B.bytes
  have hr := B.returns
  have hts := atoms_spec (ws := wsL_asks) B.pre
  have hown : s.vm.findClass RL = some m.cls := findClass_of_methodNamed B.named
  have hlocks := B.notSynchronized
  have htab : c.exceptionTable.toList = tableOf [(0, 107, 108, 41)] := vx_table (x := yL_asks) B (hts _ List.mem_cons_self)
  subst hsz
  have hD := hD0.self (sz := s.heap.size)
  have hA : ∀ q : Nat, s.heap.size ≤ q → (va_A (cA T na mo nm rs D mny nA rA) s.heap.size) q := fun q h => Or.inr h
  have hS : va_S (va_A (cA T na mo nm rs D mny nA rA) s.heap.size) s.heap s.heap [] := va_S.rf
  have hl := lv_entry ([.ref na, .int 0, .int p0, .int z1]) (n := 5) (Nat.le_of_ble_eq_true rfl)
  rw [lg_entry_eq]
  generalize (lg_sl ([.ref na, .int 0, .int p0, .int z1]) ++ List.replicate (5 - (lg_sl ([.ref na, .int 0, .int p0, .int z1])).length) Slot.unset).toArray = ls at hl ⊢
  have hl : lv_has ls 5 [(0, .ref na), (1, .int 0), (2, .int p0), (3, .int z1)] := hl
  have hP : va_P G vwCl (cA T na mo nm rs D mny nA rA) s.heap := hP
  refine lv_iload_n hx hb dL_asks_0 rfl (lv_at hl 1 rfl) ?_
  refine lv_if_ne (tgt := 12) hx hb dL_asks_1 (by decide) (fun c1 => ?_) (fun c1 => ?_)
  · exact absurd c1 (by decide)
  · skip
    refine lv_aload_n hx hb dL_asks_4 rfl (lv_at hl 0 rfl) ?_
    refine lv_iload_n hx hb dL_asks_5 rfl (lv_at hl 2 rfl) ?_
    refine gxi (vx_runV (As := [.int p0]) (rest := []) ⟨hx, hb, hml, hown, hts⟩ (kX2_funds l hl0 G T na mo nm rs D mny nA rA p0 i _ hi) (cwV 1 hts gL_asks_X2_funds rfl rfl rfl (by decide +kernel) ⟨Nat.le_of_ble_eq_true rfl, Nat.le_of_ble_eq_true rfl⟩) ⟨gblind, va_recv hK hP (ci := 2) (q0 := 0) rfl rfl, gpre hE hK hP hD hS hA [0, 1, 2, 3] rfl rfl⟩ rfl rfl hl.1 rfl (lv_room (Nat.le_of_ble_eq_true rfl)) dL_asks_6 ⟨Nat.le_of_ble_eq_true rfl, Nat.le_of_ble_eq_true rfl⟩) hP hD hS hA [0, 1, 2, 3] rfl rfl (fun E9 ce9 q9 H locs he hP hD hS hce hcv hcl => ?_) (fun r9 H locs hw hP hD hS => ?_)
    · skip
      have hP : va_P G vwCl (cA T na mo nm rs D mny nA rA) H := hP
      have hD : va_D (va_A (cA T na mo nm rs D mny nA rA) s.heap.size) (cA T na mo nm rs D mny nA rA) := hD
      rcases he with ⟨hk9, rfl⟩ | ⟨hk9, rfl⟩ | ⟨hk9, rfl⟩
      · skip
        refine vx_catch (own := RL) (name := "java/lang/IndexOutOfBoundsException") hown [] ⟨0, 107, 108, 41⟩ [] (htab.trans rfl) (fun z hz => nomatch hz) rfl (by decide) (hts (.classLink RL 41 "java/lang/IndexOutOfBoundsException") (by decide +kernel)) (va_Nw.use rfl (hE.1 (.castable "java/lang/IndexOutOfBoundsException" "java/lang/IndexOutOfBoundsException") (by decide +kernel))) hce hcv hcl ?_
        refine lv_astore (lv' := [(4, .ref q9), (0, .ref na), (1, .int 0), (2, .int p0), (3, .int z1)]) hx hb dL_asks_108 hl (by decide) rfl (fun ls hl => ?_)
        refine lv_bipush (v := (-30)) hx hb dL_asks_110 (by decide) ?_
        exact W.iret (v := (-30)) hx hb hr (fun t ht9 hW => ⟨⟨(-30), (), rfl, by rw [hk9]; rfl, gBi ht9 (gfin hP (rfl))⟩, hS.F ht9⟩) hS.2.2 dL_asks_112
      · skip
        exact absurd hk9 (by simp only [kOwn]; repeat (first | split | decide))
      · skip
        exact absurd hk9 (by simp only [kOwn]; repeat (first | split | decide))
    · skip
      have hP : va_P G vwCl (cA T na mo nm rs D mny nA rA) H := hP
      have hD : va_D (va_A (cA T na mo nm rs D mny nA rA) s.heap.size) (cA T na mo nm rs D mny nA rA) := hD
      exact absurd hw.1 hk
abbrev PL_asks_1_ok (G : va_G) (T : Nat → ClassId) (na mo nm rs : Nat) (D mny : Nat → Int32) (nA rA : Nat → Nat) (j x2 x3 : Nat) (N f g : Nat → Int32) (p0 : Int32) (z1 : Int32) (sz : Nat) : Array Value → State → Prop := gPc G T [.ref na, .int 1, .int p0, .int z1] ((cA T na mo nm rs D mny nA rA) ++ (cN T (nA j) x2 x3 N f g)) sz
abbrev QL_asks_1_ok (G : va_G) (T : Nat → ClassId) (na mo nm rs : Nat) (D mny : Nat → Int32) (nA rA : Nat → Nat) (j x2 x3 : Nat) (N f g : Nat → Int32) (p0 : Int32) (z1 : Int32) (sz : Nat) : Array Value → State → Outcome → State → Prop := va_Qi (fun (r : Int32) (_ : Unit) => r = sCnt f 6) (gB G ((cA T na mo nm rs D mny nA rA) ++ (cN T (nA j) x2 x3 N f g))) (va_A ((cA T na mo nm rs D mny nA rA) ++ (cN T (nA j) x2 x3 N f g)) sz)
set_option maxHeartbeats 4000000 in
set_option maxRecDepth 100000 in
theorem kL_asks_1_ok (l : Launch) (hl0 : l.stackTraces = false) (G : va_G) (T : Nat → ClassId) (na mo nm rs : Nat) (D mny : Nat → Int32) (nA rA : Nat → Nat) (j x2 x3 : Nat) (N f g : Nat → Int32) (p0 : Int32) (z1 : Int32) (sz : Nat) (hj : okI p0 16 = true → p0 = nI j ∧ j < 16) (hk : (kNam p0) = 0) : Met l yL_asks wsL_asks ({ frames := 8, cells := 1, slots := 6, locals := 123 } : Room) (PL_asks_1_ok G T na mo nm rs D mny nA rA j x2 x3 N f g p0 z1 sz) (QL_asks_1_ok G T na mo nm rs D mny nA rA j x2 x3 N f g p0 z1 sz) 1 6 (va_A ((cA T na mo nm rs D mny nA rA) ++ (cN T (nA j) x2 x3 N f g)) sz) := by
  refine va_MetW (cc := cL_asks) (maxL := 5) (ret := (some .int)) (hh := [(0, 107, 108, 41)]) (by decide) rfl ?_
  intro p e s m args below meth c s₁ B hml hv
  obtain ⟨rfl, hsz, hP, hK, hD0, hE⟩ := hv
  have hx := B.exec
  have hb := B.bytes
  have hr := B.returns
  have hts := atoms_spec (ws := wsL_asks) B.pre
  have hown : s.vm.findClass RL = some m.cls := findClass_of_methodNamed B.named
  have hlocks := B.notSynchronized
  have htab : c.exceptionTable.toList = tableOf [(0, 107, 108, 41)] := vx_table (x := yL_asks) B (hts _ List.mem_cons_self)
  subst hsz
  have hD := hD0.self (sz := s.heap.size)
  have hA : ∀ q : Nat, s.heap.size ≤ q → (va_A ((cA T na mo nm rs D mny nA rA) ++ (cN T (nA j) x2 x3 N f g)) s.heap.size) q := fun q h => Or.inr h
  have hS : va_S (va_A ((cA T na mo nm rs D mny nA rA) ++ (cN T (nA j) x2 x3 N f g)) s.heap.size) s.heap s.heap [] := va_S.rf
  have hl := lv_entry ([.ref na, .int 1, .int p0, .int z1]) (n := 5) (Nat.le_of_ble_eq_true rfl)
  rw [lg_entry_eq]
  generalize (lg_sl ([.ref na, .int 1, .int p0, .int z1]) ++ List.replicate (5 - (lg_sl ([.ref na, .int 1, .int p0, .int z1])).length) Slot.unset).toArray = ls at hl ⊢
  have hl : lv_has ls 5 [(0, .ref na), (1, .int 1), (2, .int p0), (3, .int z1)] := hl
  have hP : va_P G vwCl ((cA T na mo nm rs D mny nA rA) ++ (cN T (nA j) x2 x3 N f g)) s.heap := hP
  refine lv_iload_n hx hb dL_asks_0 rfl (lv_at hl 1 rfl) ?_
  refine lv_if_ne (tgt := 12) hx hb dL_asks_1 (by decide) (fun c1 => ?_) (fun c1 => ?_)
  · skip
    refine lv_iload_n hx hb dL_asks_12 rfl (lv_at hl 1 rfl) ?_
    refine lv_iconst (v := 1) hx hb dL_asks_13 (by decide) ?_
    refine lv_icmp_ne (tgt := 25) hx hb dL_asks_14 (by decide) (fun c14 => ?_) (fun c14 => ?_)
    · exact absurd c14 (by decide)
    · skip
      refine lv_aload_n hx hb dL_asks_17 rfl (lv_at hl 0 rfl) ?_
      refine lv_iload_n hx hb dL_asks_18 rfl (lv_at hl 2 rfl) ?_
      refine gxi (vx_runV (As := [.int p0]) (rest := []) ⟨hx, hb, hml, hown, hts⟩ (kX2_bids l hl0 G T na mo nm rs D mny nA rA j x2 x3 N f g p0 _ hj) (cwV 1 hts gL_asks_X2_bids rfl rfl rfl (by decide +kernel) ⟨Nat.le_of_ble_eq_true rfl, Nat.le_of_ble_eq_true rfl⟩) ⟨gblind, va_recv hK hP (ci := 2) (q0 := 0) rfl rfl, gpre hE hK hP hD hS hA [0, 1, 2, 3, 4, 5, 6] rfl rfl⟩ rfl rfl hl.1 rfl (lv_room (Nat.le_of_ble_eq_true rfl)) dL_asks_19 ⟨Nat.le_of_ble_eq_true rfl, Nat.le_of_ble_eq_true rfl⟩) hP hD hS hA [0, 1, 2, 3, 4, 5, 6] rfl rfl (fun E9 ce9 q9 H locs he hP hD hS hce hcv hcl => ?_) (fun r9 H locs hw hP hD hS => ?_)
      · skip
        have hP : va_P G vwCl ((cA T na mo nm rs D mny nA rA) ++ (cN T (nA j) x2 x3 N f g)) H := hP
        have hD : va_D (va_A ((cA T na mo nm rs D mny nA rA) ++ (cN T (nA j) x2 x3 N f g)) s.heap.size) ((cA T na mo nm rs D mny nA rA) ++ (cN T (nA j) x2 x3 N f g)) := hD
        rcases he with ⟨hk9, rfl⟩ | ⟨hk9, rfl⟩ | ⟨hk9, rfl⟩
        · skip
          exact absurd (hk.symm.trans hk9) (by decide)
        · skip
          exact absurd (hk.symm.trans hk9) (by decide)
        · skip
          exact absurd (hk.symm.trans hk9) (by decide)
      · skip
        have hP : va_P G vwCl ((cA T na mo nm rs D mny nA rA) ++ (cN T (nA j) x2 x3 N f g)) H := hP
        have hD : va_D (va_A ((cA T na mo nm rs D mny nA rA) ++ (cN T (nA j) x2 x3 N f g)) s.heap.size) ((cA T na mo nm rs D mny nA rA) ++ (cN T (nA j) x2 x3 N f g)) := hD
        obtain ⟨hok19, hw⟩ := hw
        subst hw
        refine lv_goto (tgt := 107) hx hb dL_asks_22 (by decide) ?_
        exact W.iret (v := sCnt f 6) hx hb hr (fun t ht9 hW => ⟨⟨sCnt f 6, (), rfl, rfl, gBi ht9 (gfin hP (rfl))⟩, hS.F ht9⟩) hS.2.2 dL_asks_107
  · exact absurd c1 (by decide)
abbrev PL_asks_1_no (G : va_G) (T : Nat → ClassId) (na mo nm rs : Nat) (D mny : Nat → Int32) (nA rA : Nat → Nat) (j x2 x3 : Nat) (N f g : Nat → Int32) (p0 : Int32) (z1 : Int32) (sz : Nat) : Array Value → State → Prop := gPc G T [.ref na, .int 1, .int p0, .int z1] ((cA T na mo nm rs D mny nA rA) ++ (cN T (nA j) x2 x3 N f g)) sz
abbrev QL_asks_1_no (G : va_G) (T : Nat → ClassId) (na mo nm rs : Nat) (D mny : Nat → Int32) (nA rA : Nat → Nat) (j x2 x3 : Nat) (N f g : Nat → Int32) (p0 : Int32) (z1 : Int32) (sz : Nat) : Array Value → State → Outcome → State → Prop := va_Qi (fun (r : Int32) (_ : Unit) => r = wD (kNam p0)) (gB G ((cA T na mo nm rs D mny nA rA) ++ (cN T (nA j) x2 x3 N f g))) (va_A ((cA T na mo nm rs D mny nA rA) ++ (cN T (nA j) x2 x3 N f g)) sz)
set_option maxHeartbeats 4000000 in
set_option maxRecDepth 100000 in
theorem kL_asks_1_no (l : Launch) (hl0 : l.stackTraces = false) (G : va_G) (T : Nat → ClassId) (na mo nm rs : Nat) (D mny : Nat → Int32) (nA rA : Nat → Nat) (j x2 x3 : Nat) (N f g : Nat → Int32) (p0 : Int32) (z1 : Int32) (sz : Nat) (hj : okI p0 16 = true → p0 = nI j ∧ j < 16) (hk : ¬ (kNam p0) = 0) : Met l yL_asks wsL_asks ({ frames := 8, cells := 1, slots := 6, locals := 123 } : Room) (PL_asks_1_no G T na mo nm rs D mny nA rA j x2 x3 N f g p0 z1 sz) (QL_asks_1_no G T na mo nm rs D mny nA rA j x2 x3 N f g p0 z1 sz) 1 6 (va_A ((cA T na mo nm rs D mny nA rA) ++ (cN T (nA j) x2 x3 N f g)) sz) := by
  refine va_MetW (cc := cL_asks) (maxL := 5) (ret := (some .int)) (hh := [(0, 107, 108, 41)]) (by decide) rfl ?_
  intro p e s m args below meth c s₁ B hml hv
  obtain ⟨rfl, hsz, hP, hK, hD0, hE⟩ := hv
  have hx := B.exec
  have hb := B.bytes
  have hr := B.returns
  have hts := atoms_spec (ws := wsL_asks) B.pre
  have hown : s.vm.findClass RL = some m.cls := findClass_of_methodNamed B.named
  have hlocks := B.notSynchronized
  have htab : c.exceptionTable.toList = tableOf [(0, 107, 108, 41)] := vx_table (x := yL_asks) B (hts _ List.mem_cons_self)
  subst hsz
  have hD := hD0.self (sz := s.heap.size)
  have hA : ∀ q : Nat, s.heap.size ≤ q → (va_A ((cA T na mo nm rs D mny nA rA) ++ (cN T (nA j) x2 x3 N f g)) s.heap.size) q := fun q h => Or.inr h
  have hS : va_S (va_A ((cA T na mo nm rs D mny nA rA) ++ (cN T (nA j) x2 x3 N f g)) s.heap.size) s.heap s.heap [] := va_S.rf
  have hl := lv_entry ([.ref na, .int 1, .int p0, .int z1]) (n := 5) (Nat.le_of_ble_eq_true rfl)
  rw [lg_entry_eq]
  generalize (lg_sl ([.ref na, .int 1, .int p0, .int z1]) ++ List.replicate (5 - (lg_sl ([.ref na, .int 1, .int p0, .int z1])).length) Slot.unset).toArray = ls at hl ⊢
  have hl : lv_has ls 5 [(0, .ref na), (1, .int 1), (2, .int p0), (3, .int z1)] := hl
  have hP : va_P G vwCl ((cA T na mo nm rs D mny nA rA) ++ (cN T (nA j) x2 x3 N f g)) s.heap := hP
  refine lv_iload_n hx hb dL_asks_0 rfl (lv_at hl 1 rfl) ?_
  refine lv_if_ne (tgt := 12) hx hb dL_asks_1 (by decide) (fun c1 => ?_) (fun c1 => ?_)
  · skip
    refine lv_iload_n hx hb dL_asks_12 rfl (lv_at hl 1 rfl) ?_
    refine lv_iconst (v := 1) hx hb dL_asks_13 (by decide) ?_
    refine lv_icmp_ne (tgt := 25) hx hb dL_asks_14 (by decide) (fun c14 => ?_) (fun c14 => ?_)
    · exact absurd c14 (by decide)
    · skip
      refine lv_aload_n hx hb dL_asks_17 rfl (lv_at hl 0 rfl) ?_
      refine lv_iload_n hx hb dL_asks_18 rfl (lv_at hl 2 rfl) ?_
      refine gxi (vx_runV (As := [.int p0]) (rest := []) ⟨hx, hb, hml, hown, hts⟩ (kX2_bids l hl0 G T na mo nm rs D mny nA rA j x2 x3 N f g p0 _ hj) (cwV 1 hts gL_asks_X2_bids rfl rfl rfl (by decide +kernel) ⟨Nat.le_of_ble_eq_true rfl, Nat.le_of_ble_eq_true rfl⟩) ⟨gblind, va_recv hK hP (ci := 2) (q0 := 0) rfl rfl, gpre hE hK hP hD hS hA [0, 1, 2, 3, 4, 5, 6] rfl rfl⟩ rfl rfl hl.1 rfl (lv_room (Nat.le_of_ble_eq_true rfl)) dL_asks_19 ⟨Nat.le_of_ble_eq_true rfl, Nat.le_of_ble_eq_true rfl⟩) hP hD hS hA [0, 1, 2, 3, 4, 5, 6] rfl rfl (fun E9 ce9 q9 H locs he hP hD hS hce hcv hcl => ?_) (fun r9 H locs hw hP hD hS => ?_)
      · skip
        have hP : va_P G vwCl ((cA T na mo nm rs D mny nA rA) ++ (cN T (nA j) x2 x3 N f g)) H := hP
        have hD : va_D (va_A ((cA T na mo nm rs D mny nA rA) ++ (cN T (nA j) x2 x3 N f g)) s.heap.size) ((cA T na mo nm rs D mny nA rA) ++ (cN T (nA j) x2 x3 N f g)) := hD
        rcases he with ⟨hk9, rfl⟩ | ⟨hk9, rfl⟩ | ⟨hk9, rfl⟩
        · skip
          refine vx_catch (own := RL) (name := "java/lang/IndexOutOfBoundsException") hown [] ⟨0, 107, 108, 41⟩ [] (htab.trans rfl) (fun z hz => nomatch hz) rfl (by decide) (hts (.classLink RL 41 "java/lang/IndexOutOfBoundsException") (by decide +kernel)) (va_Nw.use rfl (hE.1 (.castable "java/lang/IndexOutOfBoundsException" "java/lang/IndexOutOfBoundsException") (by decide +kernel))) hce hcv hcl ?_
          refine lv_astore (lv' := [(4, .ref q9), (0, .ref na), (1, .int 1), (2, .int p0), (3, .int z1)]) hx hb dL_asks_108 hl (by decide) rfl (fun ls hl => ?_)
          refine lv_bipush (v := (-30)) hx hb dL_asks_110 (by decide) ?_
          exact W.iret (v := (-30)) hx hb hr (fun t ht9 hW => ⟨⟨(-30), (), rfl, by rw [hk9]; rfl, gBi ht9 (gfin hP (rfl))⟩, hS.F ht9⟩) hS.2.2 dL_asks_112
        · skip
          exact absurd hk9 (by simp only [kNam]; repeat (first | split | decide))
        · skip
          exact absurd hk9 (by simp only [kNam]; repeat (first | split | decide))
      · skip
        have hP : va_P G vwCl ((cA T na mo nm rs D mny nA rA) ++ (cN T (nA j) x2 x3 N f g)) H := hP
        have hD : va_D (va_A ((cA T na mo nm rs D mny nA rA) ++ (cN T (nA j) x2 x3 N f g)) s.heap.size) ((cA T na mo nm rs D mny nA rA) ++ (cN T (nA j) x2 x3 N f g)) := hD
        exact absurd hw.1 hk
  · exact absurd c1 (by decide)
abbrev PL_asks_2_ok (G : va_G) (T : Nat → ClassId) (na mo nm rs : Nat) (D mny : Nat → Int32) (nA rA : Nat → Nat) (j x2 x3 : Nat) (N f g : Nat → Int32) (p0 : Int32) (z1 : Int32) (sz : Nat) : Array Value → State → Prop := gPc G T [.ref na, .int 2, .int p0, .int z1] ((cA T na mo nm rs D mny nA rA) ++ (cN T (nA j) x2 x3 N f g)) sz
abbrev QL_asks_2_ok (G : va_G) (T : Nat → ClassId) (na mo nm rs : Nat) (D mny : Nat → Int32) (nA rA : Nat → Nat) (j x2 x3 : Nat) (N f g : Nat → Int32) (p0 : Int32) (z1 : Int32) (sz : Nat) : Array Value → State → Outcome → State → Prop := va_Qi (fun (r : Int32) (_ : Unit) => r = N 0) (gB G ((cA T na mo nm rs D mny nA rA) ++ (cN T (nA j) x2 x3 N f g))) (va_A ((cA T na mo nm rs D mny nA rA) ++ (cN T (nA j) x2 x3 N f g)) sz)
set_option maxHeartbeats 4000000 in
set_option maxRecDepth 100000 in
theorem kL_asks_2_ok (l : Launch) (hl0 : l.stackTraces = false) (G : va_G) (T : Nat → ClassId) (na mo nm rs : Nat) (D mny : Nat → Int32) (nA rA : Nat → Nat) (j x2 x3 : Nat) (N f g : Nat → Int32) (p0 : Int32) (z1 : Int32) (sz : Nat) (hj : okI p0 16 = true → p0 = nI j ∧ j < 16) (hk : (kNam p0) = 0) : Met l yL_asks wsL_asks ({ frames := 8, cells := 1, slots := 6, locals := 123 } : Room) (PL_asks_2_ok G T na mo nm rs D mny nA rA j x2 x3 N f g p0 z1 sz) (QL_asks_2_ok G T na mo nm rs D mny nA rA j x2 x3 N f g p0 z1 sz) 1 6 (va_A ((cA T na mo nm rs D mny nA rA) ++ (cN T (nA j) x2 x3 N f g)) sz) := by
  refine va_MetW (cc := cL_asks) (maxL := 5) (ret := (some .int)) (hh := [(0, 107, 108, 41)]) (by decide) rfl ?_
  intro p e s m args below meth c s₁ B hml hv
  obtain ⟨rfl, hsz, hP, hK, hD0, hE⟩ := hv
  have hx := B.exec
  have hb := B.bytes
  have hr := B.returns
  have hts := atoms_spec (ws := wsL_asks) B.pre
  have hown : s.vm.findClass RL = some m.cls := findClass_of_methodNamed B.named
  have hlocks := B.notSynchronized
  have htab : c.exceptionTable.toList = tableOf [(0, 107, 108, 41)] := vx_table (x := yL_asks) B (hts _ List.mem_cons_self)
  subst hsz
  have hD := hD0.self (sz := s.heap.size)
  have hA : ∀ q : Nat, s.heap.size ≤ q → (va_A ((cA T na mo nm rs D mny nA rA) ++ (cN T (nA j) x2 x3 N f g)) s.heap.size) q := fun q h => Or.inr h
  have hS : va_S (va_A ((cA T na mo nm rs D mny nA rA) ++ (cN T (nA j) x2 x3 N f g)) s.heap.size) s.heap s.heap [] := va_S.rf
  have hl := lv_entry ([.ref na, .int 2, .int p0, .int z1]) (n := 5) (Nat.le_of_ble_eq_true rfl)
  rw [lg_entry_eq]
  generalize (lg_sl ([.ref na, .int 2, .int p0, .int z1]) ++ List.replicate (5 - (lg_sl ([.ref na, .int 2, .int p0, .int z1])).length) Slot.unset).toArray = ls at hl ⊢
  have hl : lv_has ls 5 [(0, .ref na), (1, .int 2), (2, .int p0), (3, .int z1)] := hl
  have hP : va_P G vwCl ((cA T na mo nm rs D mny nA rA) ++ (cN T (nA j) x2 x3 N f g)) s.heap := hP
  refine lv_iload_n hx hb dL_asks_0 rfl (lv_at hl 1 rfl) ?_
  refine lv_if_ne (tgt := 12) hx hb dL_asks_1 (by decide) (fun c1 => ?_) (fun c1 => ?_)
  · skip
    refine lv_iload_n hx hb dL_asks_12 rfl (lv_at hl 1 rfl) ?_
    refine lv_iconst (v := 1) hx hb dL_asks_13 (by decide) ?_
    refine lv_icmp_ne (tgt := 25) hx hb dL_asks_14 (by decide) (fun c14 => ?_) (fun c14 => ?_)
    · skip
      refine lv_iload_n hx hb dL_asks_25 rfl (lv_at hl 1 rfl) ?_
      refine lv_iconst (v := 2) hx hb dL_asks_26 (by decide) ?_
      refine lv_icmp_ne (tgt := 38) hx hb dL_asks_27 (by decide) (fun c27 => ?_) (fun c27 => ?_)
      · exact absurd c27 (by decide)
      · skip
        refine lv_aload_n hx hb dL_asks_30 rfl (lv_at hl 0 rfl) ?_
        refine lv_iload_n hx hb dL_asks_31 rfl (lv_at hl 2 rfl) ?_
        refine gxi (vx_runV (As := [.int p0]) (rest := []) ⟨hx, hb, hml, hown, hts⟩ (kX2_state l hl0 G T na mo nm rs D mny nA rA j x2 x3 N f g p0 _ hj) (cwV 1 hts gL_asks_X2_state rfl rfl rfl (by decide +kernel) ⟨Nat.le_of_ble_eq_true rfl, Nat.le_of_ble_eq_true rfl⟩) ⟨gblind, va_recv hK hP (ci := 2) (q0 := 0) rfl rfl, gpre hE hK hP hD hS hA [0, 1, 2, 3, 4, 5, 6] rfl rfl⟩ rfl rfl hl.1 rfl (lv_room (Nat.le_of_ble_eq_true rfl)) dL_asks_32 ⟨Nat.le_of_ble_eq_true rfl, Nat.le_of_ble_eq_true rfl⟩) hP hD hS hA [0, 1, 2, 3, 4, 5, 6] rfl rfl (fun E9 ce9 q9 H locs he hP hD hS hce hcv hcl => ?_) (fun r9 H locs hw hP hD hS => ?_)
        · skip
          have hP : va_P G vwCl ((cA T na mo nm rs D mny nA rA) ++ (cN T (nA j) x2 x3 N f g)) H := hP
          have hD : va_D (va_A ((cA T na mo nm rs D mny nA rA) ++ (cN T (nA j) x2 x3 N f g)) s.heap.size) ((cA T na mo nm rs D mny nA rA) ++ (cN T (nA j) x2 x3 N f g)) := hD
          rcases he with ⟨hk9, rfl⟩ | ⟨hk9, rfl⟩ | ⟨hk9, rfl⟩
          · skip
            exact absurd (hk.symm.trans hk9) (by decide)
          · skip
            exact absurd (hk.symm.trans hk9) (by decide)
          · skip
            exact absurd (hk.symm.trans hk9) (by decide)
        · skip
          have hP : va_P G vwCl ((cA T na mo nm rs D mny nA rA) ++ (cN T (nA j) x2 x3 N f g)) H := hP
          have hD : va_D (va_A ((cA T na mo nm rs D mny nA rA) ++ (cN T (nA j) x2 x3 N f g)) s.heap.size) ((cA T na mo nm rs D mny nA rA) ++ (cN T (nA j) x2 x3 N f g)) := hD
          obtain ⟨hok32, hw⟩ := hw
          subst hw
          refine lv_goto (tgt := 107) hx hb dL_asks_35 (by decide) ?_
          exact W.iret (v := N 0) hx hb hr (fun t ht9 hW => ⟨⟨N 0, (), rfl, rfl, gBi ht9 (gfin hP (rfl))⟩, hS.F ht9⟩) hS.2.2 dL_asks_107
    · exact absurd c14 (by decide)
  · exact absurd c1 (by decide)
abbrev PL_asks_2_no (G : va_G) (T : Nat → ClassId) (na mo nm rs : Nat) (D mny : Nat → Int32) (nA rA : Nat → Nat) (j x2 x3 : Nat) (N f g : Nat → Int32) (p0 : Int32) (z1 : Int32) (sz : Nat) : Array Value → State → Prop := gPc G T [.ref na, .int 2, .int p0, .int z1] ((cA T na mo nm rs D mny nA rA) ++ (cN T (nA j) x2 x3 N f g)) sz
abbrev QL_asks_2_no (G : va_G) (T : Nat → ClassId) (na mo nm rs : Nat) (D mny : Nat → Int32) (nA rA : Nat → Nat) (j x2 x3 : Nat) (N f g : Nat → Int32) (p0 : Int32) (z1 : Int32) (sz : Nat) : Array Value → State → Outcome → State → Prop := va_Qi (fun (r : Int32) (_ : Unit) => r = wD (kNam p0)) (gB G ((cA T na mo nm rs D mny nA rA) ++ (cN T (nA j) x2 x3 N f g))) (va_A ((cA T na mo nm rs D mny nA rA) ++ (cN T (nA j) x2 x3 N f g)) sz)
set_option maxHeartbeats 4000000 in
set_option maxRecDepth 100000 in
theorem kL_asks_2_no (l : Launch) (hl0 : l.stackTraces = false) (G : va_G) (T : Nat → ClassId) (na mo nm rs : Nat) (D mny : Nat → Int32) (nA rA : Nat → Nat) (j x2 x3 : Nat) (N f g : Nat → Int32) (p0 : Int32) (z1 : Int32) (sz : Nat) (hj : okI p0 16 = true → p0 = nI j ∧ j < 16) (hk : ¬ (kNam p0) = 0) : Met l yL_asks wsL_asks ({ frames := 8, cells := 1, slots := 6, locals := 123 } : Room) (PL_asks_2_no G T na mo nm rs D mny nA rA j x2 x3 N f g p0 z1 sz) (QL_asks_2_no G T na mo nm rs D mny nA rA j x2 x3 N f g p0 z1 sz) 1 6 (va_A ((cA T na mo nm rs D mny nA rA) ++ (cN T (nA j) x2 x3 N f g)) sz) := by
  refine va_MetW (cc := cL_asks) (maxL := 5) (ret := (some .int)) (hh := [(0, 107, 108, 41)]) (by decide) rfl ?_
  intro p e s m args below meth c s₁ B hml hv
  obtain ⟨rfl, hsz, hP, hK, hD0, hE⟩ := hv
  have hx := B.exec
  have hb := B.bytes
  have hr := B.returns
  have hts := atoms_spec (ws := wsL_asks) B.pre
  have hown : s.vm.findClass RL = some m.cls := findClass_of_methodNamed B.named
  have hlocks := B.notSynchronized
  have htab : c.exceptionTable.toList = tableOf [(0, 107, 108, 41)] := vx_table (x := yL_asks) B (hts _ List.mem_cons_self)
  subst hsz
  have hD := hD0.self (sz := s.heap.size)
  have hA : ∀ q : Nat, s.heap.size ≤ q → (va_A ((cA T na mo nm rs D mny nA rA) ++ (cN T (nA j) x2 x3 N f g)) s.heap.size) q := fun q h => Or.inr h
  have hS : va_S (va_A ((cA T na mo nm rs D mny nA rA) ++ (cN T (nA j) x2 x3 N f g)) s.heap.size) s.heap s.heap [] := va_S.rf
  have hl := lv_entry ([.ref na, .int 2, .int p0, .int z1]) (n := 5) (Nat.le_of_ble_eq_true rfl)
  rw [lg_entry_eq]
  generalize (lg_sl ([.ref na, .int 2, .int p0, .int z1]) ++ List.replicate (5 - (lg_sl ([.ref na, .int 2, .int p0, .int z1])).length) Slot.unset).toArray = ls at hl ⊢
  have hl : lv_has ls 5 [(0, .ref na), (1, .int 2), (2, .int p0), (3, .int z1)] := hl
  have hP : va_P G vwCl ((cA T na mo nm rs D mny nA rA) ++ (cN T (nA j) x2 x3 N f g)) s.heap := hP
  refine lv_iload_n hx hb dL_asks_0 rfl (lv_at hl 1 rfl) ?_
  refine lv_if_ne (tgt := 12) hx hb dL_asks_1 (by decide) (fun c1 => ?_) (fun c1 => ?_)
  · skip
    refine lv_iload_n hx hb dL_asks_12 rfl (lv_at hl 1 rfl) ?_
    refine lv_iconst (v := 1) hx hb dL_asks_13 (by decide) ?_
    refine lv_icmp_ne (tgt := 25) hx hb dL_asks_14 (by decide) (fun c14 => ?_) (fun c14 => ?_)
    · skip
      refine lv_iload_n hx hb dL_asks_25 rfl (lv_at hl 1 rfl) ?_
      refine lv_iconst (v := 2) hx hb dL_asks_26 (by decide) ?_
      refine lv_icmp_ne (tgt := 38) hx hb dL_asks_27 (by decide) (fun c27 => ?_) (fun c27 => ?_)
      · exact absurd c27 (by decide)
      · skip
        refine lv_aload_n hx hb dL_asks_30 rfl (lv_at hl 0 rfl) ?_
        refine lv_iload_n hx hb dL_asks_31 rfl (lv_at hl 2 rfl) ?_
        refine gxi (vx_runV (As := [.int p0]) (rest := []) ⟨hx, hb, hml, hown, hts⟩ (kX2_state l hl0 G T na mo nm rs D mny nA rA j x2 x3 N f g p0 _ hj) (cwV 1 hts gL_asks_X2_state rfl rfl rfl (by decide +kernel) ⟨Nat.le_of_ble_eq_true rfl, Nat.le_of_ble_eq_true rfl⟩) ⟨gblind, va_recv hK hP (ci := 2) (q0 := 0) rfl rfl, gpre hE hK hP hD hS hA [0, 1, 2, 3, 4, 5, 6] rfl rfl⟩ rfl rfl hl.1 rfl (lv_room (Nat.le_of_ble_eq_true rfl)) dL_asks_32 ⟨Nat.le_of_ble_eq_true rfl, Nat.le_of_ble_eq_true rfl⟩) hP hD hS hA [0, 1, 2, 3, 4, 5, 6] rfl rfl (fun E9 ce9 q9 H locs he hP hD hS hce hcv hcl => ?_) (fun r9 H locs hw hP hD hS => ?_)
        · skip
          have hP : va_P G vwCl ((cA T na mo nm rs D mny nA rA) ++ (cN T (nA j) x2 x3 N f g)) H := hP
          have hD : va_D (va_A ((cA T na mo nm rs D mny nA rA) ++ (cN T (nA j) x2 x3 N f g)) s.heap.size) ((cA T na mo nm rs D mny nA rA) ++ (cN T (nA j) x2 x3 N f g)) := hD
          rcases he with ⟨hk9, rfl⟩ | ⟨hk9, rfl⟩ | ⟨hk9, rfl⟩
          · skip
            refine vx_catch (own := RL) (name := "java/lang/IndexOutOfBoundsException") hown [] ⟨0, 107, 108, 41⟩ [] (htab.trans rfl) (fun z hz => nomatch hz) rfl (by decide) (hts (.classLink RL 41 "java/lang/IndexOutOfBoundsException") (by decide +kernel)) (va_Nw.use rfl (hE.1 (.castable "java/lang/IndexOutOfBoundsException" "java/lang/IndexOutOfBoundsException") (by decide +kernel))) hce hcv hcl ?_
            refine lv_astore (lv' := [(4, .ref q9), (0, .ref na), (1, .int 2), (2, .int p0), (3, .int z1)]) hx hb dL_asks_108 hl (by decide) rfl (fun ls hl => ?_)
            refine lv_bipush (v := (-30)) hx hb dL_asks_110 (by decide) ?_
            exact W.iret (v := (-30)) hx hb hr (fun t ht9 hW => ⟨⟨(-30), (), rfl, by rw [hk9]; rfl, gBi ht9 (gfin hP (rfl))⟩, hS.F ht9⟩) hS.2.2 dL_asks_112
          · skip
            exact absurd hk9 (by simp only [kNam]; repeat (first | split | decide))
          · skip
            exact absurd hk9 (by simp only [kNam]; repeat (first | split | decide))
        · skip
          have hP : va_P G vwCl ((cA T na mo nm rs D mny nA rA) ++ (cN T (nA j) x2 x3 N f g)) H := hP
          have hD : va_D (va_A ((cA T na mo nm rs D mny nA rA) ++ (cN T (nA j) x2 x3 N f g)) s.heap.size) ((cA T na mo nm rs D mny nA rA) ++ (cN T (nA j) x2 x3 N f g)) := hD
          exact absurd hw.1 hk
    · exact absurd c14 (by decide)
  · exact absurd c1 (by decide)
abbrev PL_asks_3_ok (G : va_G) (T : Nat → ClassId) (aK aV : Nat → Nat) (na mo nm rs : Nat) (D mny : Nat → Int32) (nA rA : Nat → Nat) (j x2 x3 : Nat) (N f g : Nat → Int32) (p0 p1 : Int32) (sz : Nat) : Array Value → State → Prop := gPw G T aK aV [.ref na, .int 3, .int p0, .int p1] ((cA T na mo nm rs D mny nA rA) ++ (cN T (nA j) x2 x3 N f g)) sz
abbrev QL_asks_3_ok (G : va_G) (T : Nat → ClassId) (aK aV : Nat → Nat) (na mo nm rs : Nat) (D mny : Nat → Int32) (nA rA : Nat → Nat) (j x2 x3 : Nat) (N f g : Nat → Int32) (p0 p1 : Int32) (sz : Nat) : Array Value → State → Outcome → State → Prop := va_Qi (fun (r : Int32) (_ : Unit) => r = sSign N p1) (gB G ((cA T na mo nm rs D mny nA rA) ++ (cN T (nA j) x2 x3 N f g))) (va_A ((cA T na mo nm rs D mny nA rA) ++ (cN T (nA j) x2 x3 N f g)) sz)
set_option maxHeartbeats 4000000 in
set_option maxRecDepth 100000 in
theorem kL_asks_3_ok (l : Launch) (hl0 : l.stackTraces = false) (G : va_G) (T : Nat → ClassId) (aK aV : Nat → Nat) (na mo nm rs : Nat) (D mny : Nat → Int32) (nA rA : Nat → Nat) (j x2 x3 : Nat) (N f g : Nat → Int32) (p0 p1 : Int32) (sz : Nat) (hj : okI p0 16 = true → p0 = nI j ∧ j < 16) (hk : (kSign N p0 p1) = 0) : Met l yL_asks wsL_asks ({ frames := 8, cells := 2, slots := 12, locals := 127 } : Room) (PL_asks_3_ok G T aK aV na mo nm rs D mny nA rA j x2 x3 N f g p0 p1 sz) (QL_asks_3_ok G T aK aV na mo nm rs D mny nA rA j x2 x3 N f g p0 p1 sz) 2 12 (va_A ((cA T na mo nm rs D mny nA rA) ++ (cN T (nA j) x2 x3 N f g)) sz) := by
  refine va_MetW (cc := cL_asks) (maxL := 5) (ret := (some .int)) (hh := [(0, 107, 108, 41)]) (by decide) rfl ?_
  intro p e s m args below meth c s₁ B hml hv
  obtain ⟨rfl, ⟨hsz, hP, hK, hD0, hE⟩, hWs⟩ := hv
  have hx := B.exec
  have hb := B.bytes
  have hr := B.returns
  have hts := atoms_spec (ws := wsL_asks) B.pre
  have hown : s.vm.findClass RL = some m.cls := findClass_of_methodNamed B.named
  have hlocks := B.notSynchronized
  have htab : c.exceptionTable.toList = tableOf [(0, 107, 108, 41)] := vx_table (x := yL_asks) B (hts _ List.mem_cons_self)
  subst hsz
  have hD := hD0.self (sz := s.heap.size)
  have hA : ∀ q : Nat, s.heap.size ≤ q → (va_A ((cA T na mo nm rs D mny nA rA) ++ (cN T (nA j) x2 x3 N f g)) s.heap.size) q := fun q h => Or.inr h
  have hS : va_S (va_A ((cA T na mo nm rs D mny nA rA) ++ (cN T (nA j) x2 x3 N f g)) s.heap.size) s.heap s.heap [] := va_S.rf
  have hl := lv_entry ([.ref na, .int 3, .int p0, .int p1]) (n := 5) (Nat.le_of_ble_eq_true rfl)
  rw [lg_entry_eq]
  generalize (lg_sl ([.ref na, .int 3, .int p0, .int p1]) ++ List.replicate (5 - (lg_sl ([.ref na, .int 3, .int p0, .int p1])).length) Slot.unset).toArray = ls at hl ⊢
  have hl : lv_has ls 5 [(0, .ref na), (1, .int 3), (2, .int p0), (3, .int p1)] := hl
  have hP : va_P G vwCl ((cA T na mo nm rs D mny nA rA) ++ (cN T (nA j) x2 x3 N f g)) s.heap := hP
  refine lv_iload_n hx hb dL_asks_0 rfl (lv_at hl 1 rfl) ?_
  refine lv_if_ne (tgt := 12) hx hb dL_asks_1 (by decide) (fun c1 => ?_) (fun c1 => ?_)
  · skip
    refine lv_iload_n hx hb dL_asks_12 rfl (lv_at hl 1 rfl) ?_
    refine lv_iconst (v := 1) hx hb dL_asks_13 (by decide) ?_
    refine lv_icmp_ne (tgt := 25) hx hb dL_asks_14 (by decide) (fun c14 => ?_) (fun c14 => ?_)
    · skip
      refine lv_iload_n hx hb dL_asks_25 rfl (lv_at hl 1 rfl) ?_
      refine lv_iconst (v := 2) hx hb dL_asks_26 (by decide) ?_
      refine lv_icmp_ne (tgt := 38) hx hb dL_asks_27 (by decide) (fun c27 => ?_) (fun c27 => ?_)
      · skip
        refine lv_iload_n hx hb dL_asks_38 rfl (lv_at hl 1 rfl) ?_
        refine lv_iconst (v := 3) hx hb dL_asks_39 (by decide) ?_
        refine lv_icmp_ne (tgt := 52) hx hb dL_asks_40 (by decide) (fun c40 => ?_) (fun c40 => ?_)
        · exact absurd c40 (by decide)
        · skip
          refine lv_aload_n hx hb dL_asks_43 rfl (lv_at hl 0 rfl) ?_
          refine lv_iload_n hx hb dL_asks_44 rfl (lv_at hl 2 rfl) ?_
          refine lv_iload_n hx hb dL_asks_45 rfl (lv_at hl 3 rfl) ?_
          refine gxi (vx_runV (As := [.int p0, .int p1]) (rest := []) ⟨hx, hb, hml, hown, hts⟩ (kX2_sign l hl0 G T aK aV na mo nm rs D mny nA rA j x2 x3 N f g p0 p1 _ hj) (cwV 2 hts gL_asks_X2_sign rfl rfl rfl (by decide +kernel) ⟨Nat.le_of_ble_eq_true rfl, Nat.le_of_ble_eq_true rfl⟩) ⟨gblindW, va_recv hK hP (ci := 2) (q0 := 0) rfl rfl, gpreW hWs hE hK hP hD hS hA [0, 1, 2, 3, 4, 5, 6] rfl rfl⟩ rfl rfl hl.1 rfl (lv_room (Nat.le_of_ble_eq_true rfl)) dL_asks_46 ⟨Nat.le_of_ble_eq_true rfl, Nat.le_of_ble_eq_true rfl⟩) hP hD hS hA [0, 1, 2, 3, 4, 5, 6] rfl rfl (fun E9 ce9 q9 H locs he hP hD hS hce hcv hcl => ?_) (fun r9 H locs hw hP hD hS => ?_)
          · skip
            have hP : va_P G vwCl ((cA T na mo nm rs D mny nA rA) ++ (cN T (nA j) x2 x3 N f g)) H := hP
            have hD : va_D (va_A ((cA T na mo nm rs D mny nA rA) ++ (cN T (nA j) x2 x3 N f g)) s.heap.size) ((cA T na mo nm rs D mny nA rA) ++ (cN T (nA j) x2 x3 N f g)) := hD
            rcases he with ⟨hk9, rfl⟩ | ⟨hk9, rfl⟩ | ⟨hk9, rfl⟩
            · skip
              exact absurd (hk.symm.trans hk9) (by decide)
            · skip
              exact absurd (hk.symm.trans hk9) (by decide)
            · skip
              exact absurd (hk.symm.trans hk9) (by decide)
          · skip
            have hP : va_P G vwCl ((cA T na mo nm rs D mny nA rA) ++ (cN T (nA j) x2 x3 N f g)) H := hP
            have hD : va_D (va_A ((cA T na mo nm rs D mny nA rA) ++ (cN T (nA j) x2 x3 N f g)) s.heap.size) ((cA T na mo nm rs D mny nA rA) ++ (cN T (nA j) x2 x3 N f g)) := hD
            obtain ⟨hok46, hw⟩ := hw
            subst hw
            refine lv_goto (tgt := 107) hx hb dL_asks_49 (by decide) ?_
            exact W.iret (v := sSign N p1) hx hb hr (fun t ht9 hW => ⟨⟨sSign N p1, (), rfl, rfl, gBi ht9 (gfin hP (rfl))⟩, hS.F ht9⟩) hS.2.2 dL_asks_107
      · exact absurd c27 (by decide)
    · exact absurd c14 (by decide)
  · exact absurd c1 (by decide)
abbrev PL_asks_3_no (G : va_G) (T : Nat → ClassId) (aK aV : Nat → Nat) (na mo nm rs : Nat) (D mny : Nat → Int32) (nA rA : Nat → Nat) (j x2 x3 : Nat) (N f g : Nat → Int32) (p0 p1 : Int32) (sz : Nat) : Array Value → State → Prop := gPw G T aK aV [.ref na, .int 3, .int p0, .int p1] ((cA T na mo nm rs D mny nA rA) ++ (cN T (nA j) x2 x3 N f g)) sz
abbrev QL_asks_3_no (G : va_G) (T : Nat → ClassId) (aK aV : Nat → Nat) (na mo nm rs : Nat) (D mny : Nat → Int32) (nA rA : Nat → Nat) (j x2 x3 : Nat) (N f g : Nat → Int32) (p0 p1 : Int32) (sz : Nat) : Array Value → State → Outcome → State → Prop := va_Qi (fun (r : Int32) (_ : Unit) => r = wD (kSign N p0 p1)) (gB G ((cA T na mo nm rs D mny nA rA) ++ (cN T (nA j) x2 x3 N f g))) (va_A ((cA T na mo nm rs D mny nA rA) ++ (cN T (nA j) x2 x3 N f g)) sz)
set_option maxHeartbeats 4000000 in
set_option maxRecDepth 100000 in
theorem kL_asks_3_no (l : Launch) (hl0 : l.stackTraces = false) (G : va_G) (T : Nat → ClassId) (aK aV : Nat → Nat) (na mo nm rs : Nat) (D mny : Nat → Int32) (nA rA : Nat → Nat) (j x2 x3 : Nat) (N f g : Nat → Int32) (p0 p1 : Int32) (sz : Nat) (hj : okI p0 16 = true → p0 = nI j ∧ j < 16) (hk : ¬ (kSign N p0 p1) = 0) : Met l yL_asks wsL_asks ({ frames := 8, cells := 2, slots := 12, locals := 127 } : Room) (PL_asks_3_no G T aK aV na mo nm rs D mny nA rA j x2 x3 N f g p0 p1 sz) (QL_asks_3_no G T aK aV na mo nm rs D mny nA rA j x2 x3 N f g p0 p1 sz) 2 12 (va_A ((cA T na mo nm rs D mny nA rA) ++ (cN T (nA j) x2 x3 N f g)) sz) := by
  refine va_MetW (cc := cL_asks) (maxL := 5) (ret := (some .int)) (hh := [(0, 107, 108, 41)]) (by decide) rfl ?_
  intro p e s m args below meth c s₁ B hml hv
  obtain ⟨rfl, ⟨hsz, hP, hK, hD0, hE⟩, hWs⟩ := hv
  have hx := B.exec
  have hb := B.bytes
  have hr := B.returns
  have hts := atoms_spec (ws := wsL_asks) B.pre
  have hown : s.vm.findClass RL = some m.cls := findClass_of_methodNamed B.named
  have hlocks := B.notSynchronized
  have htab : c.exceptionTable.toList = tableOf [(0, 107, 108, 41)] := vx_table (x := yL_asks) B (hts _ List.mem_cons_self)
  subst hsz
  have hD := hD0.self (sz := s.heap.size)
  have hA : ∀ q : Nat, s.heap.size ≤ q → (va_A ((cA T na mo nm rs D mny nA rA) ++ (cN T (nA j) x2 x3 N f g)) s.heap.size) q := fun q h => Or.inr h
  have hS : va_S (va_A ((cA T na mo nm rs D mny nA rA) ++ (cN T (nA j) x2 x3 N f g)) s.heap.size) s.heap s.heap [] := va_S.rf
  have hl := lv_entry ([.ref na, .int 3, .int p0, .int p1]) (n := 5) (Nat.le_of_ble_eq_true rfl)
  rw [lg_entry_eq]
  generalize (lg_sl ([.ref na, .int 3, .int p0, .int p1]) ++ List.replicate (5 - (lg_sl ([.ref na, .int 3, .int p0, .int p1])).length) Slot.unset).toArray = ls at hl ⊢
  have hl : lv_has ls 5 [(0, .ref na), (1, .int 3), (2, .int p0), (3, .int p1)] := hl
  have hP : va_P G vwCl ((cA T na mo nm rs D mny nA rA) ++ (cN T (nA j) x2 x3 N f g)) s.heap := hP
  refine lv_iload_n hx hb dL_asks_0 rfl (lv_at hl 1 rfl) ?_
  refine lv_if_ne (tgt := 12) hx hb dL_asks_1 (by decide) (fun c1 => ?_) (fun c1 => ?_)
  · skip
    refine lv_iload_n hx hb dL_asks_12 rfl (lv_at hl 1 rfl) ?_
    refine lv_iconst (v := 1) hx hb dL_asks_13 (by decide) ?_
    refine lv_icmp_ne (tgt := 25) hx hb dL_asks_14 (by decide) (fun c14 => ?_) (fun c14 => ?_)
    · skip
      refine lv_iload_n hx hb dL_asks_25 rfl (lv_at hl 1 rfl) ?_
      refine lv_iconst (v := 2) hx hb dL_asks_26 (by decide) ?_
      refine lv_icmp_ne (tgt := 38) hx hb dL_asks_27 (by decide) (fun c27 => ?_) (fun c27 => ?_)
      · skip
        refine lv_iload_n hx hb dL_asks_38 rfl (lv_at hl 1 rfl) ?_
        refine lv_iconst (v := 3) hx hb dL_asks_39 (by decide) ?_
        refine lv_icmp_ne (tgt := 52) hx hb dL_asks_40 (by decide) (fun c40 => ?_) (fun c40 => ?_)
        · exact absurd c40 (by decide)
        · skip
          refine lv_aload_n hx hb dL_asks_43 rfl (lv_at hl 0 rfl) ?_
          refine lv_iload_n hx hb dL_asks_44 rfl (lv_at hl 2 rfl) ?_
          refine lv_iload_n hx hb dL_asks_45 rfl (lv_at hl 3 rfl) ?_
          refine gxi (vx_runV (As := [.int p0, .int p1]) (rest := []) ⟨hx, hb, hml, hown, hts⟩ (kX2_sign l hl0 G T aK aV na mo nm rs D mny nA rA j x2 x3 N f g p0 p1 _ hj) (cwV 2 hts gL_asks_X2_sign rfl rfl rfl (by decide +kernel) ⟨Nat.le_of_ble_eq_true rfl, Nat.le_of_ble_eq_true rfl⟩) ⟨gblindW, va_recv hK hP (ci := 2) (q0 := 0) rfl rfl, gpreW hWs hE hK hP hD hS hA [0, 1, 2, 3, 4, 5, 6] rfl rfl⟩ rfl rfl hl.1 rfl (lv_room (Nat.le_of_ble_eq_true rfl)) dL_asks_46 ⟨Nat.le_of_ble_eq_true rfl, Nat.le_of_ble_eq_true rfl⟩) hP hD hS hA [0, 1, 2, 3, 4, 5, 6] rfl rfl (fun E9 ce9 q9 H locs he hP hD hS hce hcv hcl => ?_) (fun r9 H locs hw hP hD hS => ?_)
          · skip
            have hP : va_P G vwCl ((cA T na mo nm rs D mny nA rA) ++ (cN T (nA j) x2 x3 N f g)) H := hP
            have hD : va_D (va_A ((cA T na mo nm rs D mny nA rA) ++ (cN T (nA j) x2 x3 N f g)) s.heap.size) ((cA T na mo nm rs D mny nA rA) ++ (cN T (nA j) x2 x3 N f g)) := hD
            rcases he with ⟨hk9, rfl⟩ | ⟨hk9, rfl⟩ | ⟨hk9, rfl⟩
            · skip
              refine vx_catch (own := RL) (name := "java/lang/IndexOutOfBoundsException") hown [] ⟨0, 107, 108, 41⟩ [] (htab.trans rfl) (fun z hz => nomatch hz) rfl (by decide) (hts (.classLink RL 41 "java/lang/IndexOutOfBoundsException") (by decide +kernel)) (va_Nw.use rfl (hE.1 (.castable "java/lang/IndexOutOfBoundsException" "java/lang/IndexOutOfBoundsException") (by decide +kernel))) hce hcv hcl ?_
              refine lv_astore (lv' := [(4, .ref q9), (0, .ref na), (1, .int 3), (2, .int p0), (3, .int p1)]) hx hb dL_asks_108 hl (by decide) rfl (fun ls hl => ?_)
              refine lv_bipush (v := (-30)) hx hb dL_asks_110 (by decide) ?_
              exact W.iret (v := (-30)) hx hb hr (fun t ht9 hW => ⟨⟨(-30), (), rfl, by rw [hk9]; rfl, gBi ht9 (gfin hP (rfl))⟩, hS.F ht9⟩) hS.2.2 dL_asks_112
            · skip
              exact absurd hk9 (by simp only [kSign]; repeat (first | split | decide))
            · skip
              exact absurd hk9 (by simp only [kSign]; repeat (first | split | decide))
          · skip
            have hP : va_P G vwCl ((cA T na mo nm rs D mny nA rA) ++ (cN T (nA j) x2 x3 N f g)) H := hP
            have hD : va_D (va_A ((cA T na mo nm rs D mny nA rA) ++ (cN T (nA j) x2 x3 N f g)) s.heap.size) ((cA T na mo nm rs D mny nA rA) ++ (cN T (nA j) x2 x3 N f g)) := hD
            exact absurd hw.1 hk
      · exact absurd c27 (by decide)
    · exact absurd c14 (by decide)
  · exact absurd c1 (by decide)
abbrev PL_asks_4_ok (G : va_G) (T : Nat → ClassId) (na mo nm rs : Nat) (D mny : Nat → Int32) (nA rA : Nat → Nat) (j x2 x3 : Nat) (N f g : Nat → Int32) (p0 : Int32) (z1 : Int32) (sz : Nat) : Array Value → State → Prop := gPc G T [.ref na, .int 4, .int p0, .int z1] ((cA T na mo nm rs D mny nA rA) ++ (cN T (nA j) x2 x3 N f g)) sz
abbrev QL_asks_4_ok (G : va_G) (T : Nat → ClassId) (na mo nm rs : Nat) (D mny : Nat → Int32) (nA rA : Nat → Nat) (j x2 x3 : Nat) (N f g : Nat → Int32) (p0 : Int32) (z1 : Int32) (sz : Nat) : Array Value → State → Outcome → State → Prop := va_Qi (fun (r : Int32) (_ : Unit) => r = N 1) (gB G ((cA T na mo nm rs D mny nA rA) ++ (cN T (nA j) x2 x3 N f g))) (va_A ((cA T na mo nm rs D mny nA rA) ++ (cN T (nA j) x2 x3 N f g)) sz)
set_option maxHeartbeats 4000000 in
set_option maxRecDepth 100000 in
theorem kL_asks_4_ok (l : Launch) (hl0 : l.stackTraces = false) (G : va_G) (T : Nat → ClassId) (na mo nm rs : Nat) (D mny : Nat → Int32) (nA rA : Nat → Nat) (j x2 x3 : Nat) (N f g : Nat → Int32) (p0 : Int32) (z1 : Int32) (sz : Nat) (hj : okI p0 16 = true → p0 = nI j ∧ j < 16) (hk : (kNam p0) = 0) : Met l yL_asks wsL_asks ({ frames := 8, cells := 1, slots := 6, locals := 123 } : Room) (PL_asks_4_ok G T na mo nm rs D mny nA rA j x2 x3 N f g p0 z1 sz) (QL_asks_4_ok G T na mo nm rs D mny nA rA j x2 x3 N f g p0 z1 sz) 1 6 (va_A ((cA T na mo nm rs D mny nA rA) ++ (cN T (nA j) x2 x3 N f g)) sz) := by
  refine va_MetW (cc := cL_asks) (maxL := 5) (ret := (some .int)) (hh := [(0, 107, 108, 41)]) (by decide) rfl ?_
  intro p e s m args below meth c s₁ B hml hv
  obtain ⟨rfl, hsz, hP, hK, hD0, hE⟩ := hv
  have hx := B.exec
  have hb := B.bytes
  have hr := B.returns
  have hts := atoms_spec (ws := wsL_asks) B.pre
  have hown : s.vm.findClass RL = some m.cls := findClass_of_methodNamed B.named
  have hlocks := B.notSynchronized
  have htab : c.exceptionTable.toList = tableOf [(0, 107, 108, 41)] := vx_table (x := yL_asks) B (hts _ List.mem_cons_self)
  subst hsz
  have hD := hD0.self (sz := s.heap.size)
  have hA : ∀ q : Nat, s.heap.size ≤ q → (va_A ((cA T na mo nm rs D mny nA rA) ++ (cN T (nA j) x2 x3 N f g)) s.heap.size) q := fun q h => Or.inr h
  have hS : va_S (va_A ((cA T na mo nm rs D mny nA rA) ++ (cN T (nA j) x2 x3 N f g)) s.heap.size) s.heap s.heap [] := va_S.rf
  have hl := lv_entry ([.ref na, .int 4, .int p0, .int z1]) (n := 5) (Nat.le_of_ble_eq_true rfl)
  rw [lg_entry_eq]
  generalize (lg_sl ([.ref na, .int 4, .int p0, .int z1]) ++ List.replicate (5 - (lg_sl ([.ref na, .int 4, .int p0, .int z1])).length) Slot.unset).toArray = ls at hl ⊢
  have hl : lv_has ls 5 [(0, .ref na), (1, .int 4), (2, .int p0), (3, .int z1)] := hl
  have hP : va_P G vwCl ((cA T na mo nm rs D mny nA rA) ++ (cN T (nA j) x2 x3 N f g)) s.heap := hP
  refine lv_iload_n hx hb dL_asks_0 rfl (lv_at hl 1 rfl) ?_
  refine lv_if_ne (tgt := 12) hx hb dL_asks_1 (by decide) (fun c1 => ?_) (fun c1 => ?_)
  · skip
    refine lv_iload_n hx hb dL_asks_12 rfl (lv_at hl 1 rfl) ?_
    refine lv_iconst (v := 1) hx hb dL_asks_13 (by decide) ?_
    refine lv_icmp_ne (tgt := 25) hx hb dL_asks_14 (by decide) (fun c14 => ?_) (fun c14 => ?_)
    · skip
      refine lv_iload_n hx hb dL_asks_25 rfl (lv_at hl 1 rfl) ?_
      refine lv_iconst (v := 2) hx hb dL_asks_26 (by decide) ?_
      refine lv_icmp_ne (tgt := 38) hx hb dL_asks_27 (by decide) (fun c27 => ?_) (fun c27 => ?_)
      · skip
        refine lv_iload_n hx hb dL_asks_38 rfl (lv_at hl 1 rfl) ?_
        refine lv_iconst (v := 3) hx hb dL_asks_39 (by decide) ?_
        refine lv_icmp_ne (tgt := 52) hx hb dL_asks_40 (by decide) (fun c40 => ?_) (fun c40 => ?_)
        · skip
          refine lv_iload_n hx hb dL_asks_52 rfl (lv_at hl 1 rfl) ?_
          refine lv_iconst (v := 4) hx hb dL_asks_53 (by decide) ?_
          refine lv_icmp_ne (tgt := 65) hx hb dL_asks_54 (by decide) (fun c54 => ?_) (fun c54 => ?_)
          · exact absurd c54 (by decide)
          · skip
            refine lv_aload_n hx hb dL_asks_57 rfl (lv_at hl 0 rfl) ?_
            refine lv_iload_n hx hb dL_asks_58 rfl (lv_at hl 2 rfl) ?_
            refine gxi (vx_runV (As := [.int p0]) (rest := []) ⟨hx, hb, hml, hown, hts⟩ (kX2_owner l hl0 G T na mo nm rs D mny nA rA j x2 x3 N f g p0 _ hj) (cwV 1 hts gL_asks_X2_owner rfl rfl rfl (by decide +kernel) ⟨Nat.le_of_ble_eq_true rfl, Nat.le_of_ble_eq_true rfl⟩) ⟨gblind, va_recv hK hP (ci := 2) (q0 := 0) rfl rfl, gpre hE hK hP hD hS hA [0, 1, 2, 3, 4, 5, 6] rfl rfl⟩ rfl rfl hl.1 rfl (lv_room (Nat.le_of_ble_eq_true rfl)) dL_asks_59 ⟨Nat.le_of_ble_eq_true rfl, Nat.le_of_ble_eq_true rfl⟩) hP hD hS hA [0, 1, 2, 3, 4, 5, 6] rfl rfl (fun E9 ce9 q9 H locs he hP hD hS hce hcv hcl => ?_) (fun r9 H locs hw hP hD hS => ?_)
            · skip
              have hP : va_P G vwCl ((cA T na mo nm rs D mny nA rA) ++ (cN T (nA j) x2 x3 N f g)) H := hP
              have hD : va_D (va_A ((cA T na mo nm rs D mny nA rA) ++ (cN T (nA j) x2 x3 N f g)) s.heap.size) ((cA T na mo nm rs D mny nA rA) ++ (cN T (nA j) x2 x3 N f g)) := hD
              rcases he with ⟨hk9, rfl⟩ | ⟨hk9, rfl⟩ | ⟨hk9, rfl⟩
              · skip
                exact absurd (hk.symm.trans hk9) (by decide)
              · skip
                exact absurd (hk.symm.trans hk9) (by decide)
              · skip
                exact absurd (hk.symm.trans hk9) (by decide)
            · skip
              have hP : va_P G vwCl ((cA T na mo nm rs D mny nA rA) ++ (cN T (nA j) x2 x3 N f g)) H := hP
              have hD : va_D (va_A ((cA T na mo nm rs D mny nA rA) ++ (cN T (nA j) x2 x3 N f g)) s.heap.size) ((cA T na mo nm rs D mny nA rA) ++ (cN T (nA j) x2 x3 N f g)) := hD
              obtain ⟨hok59, hw⟩ := hw
              subst hw
              refine lv_goto (tgt := 107) hx hb dL_asks_62 (by decide) ?_
              exact W.iret (v := N 1) hx hb hr (fun t ht9 hW => ⟨⟨N 1, (), rfl, rfl, gBi ht9 (gfin hP (rfl))⟩, hS.F ht9⟩) hS.2.2 dL_asks_107
        · exact absurd c40 (by decide)
      · exact absurd c27 (by decide)
    · exact absurd c14 (by decide)
  · exact absurd c1 (by decide)
abbrev PL_asks_4_no (G : va_G) (T : Nat → ClassId) (na mo nm rs : Nat) (D mny : Nat → Int32) (nA rA : Nat → Nat) (j x2 x3 : Nat) (N f g : Nat → Int32) (p0 : Int32) (z1 : Int32) (sz : Nat) : Array Value → State → Prop := gPc G T [.ref na, .int 4, .int p0, .int z1] ((cA T na mo nm rs D mny nA rA) ++ (cN T (nA j) x2 x3 N f g)) sz
abbrev QL_asks_4_no (G : va_G) (T : Nat → ClassId) (na mo nm rs : Nat) (D mny : Nat → Int32) (nA rA : Nat → Nat) (j x2 x3 : Nat) (N f g : Nat → Int32) (p0 : Int32) (z1 : Int32) (sz : Nat) : Array Value → State → Outcome → State → Prop := va_Qi (fun (r : Int32) (_ : Unit) => r = wD (kNam p0)) (gB G ((cA T na mo nm rs D mny nA rA) ++ (cN T (nA j) x2 x3 N f g))) (va_A ((cA T na mo nm rs D mny nA rA) ++ (cN T (nA j) x2 x3 N f g)) sz)
set_option maxHeartbeats 4000000 in
set_option maxRecDepth 100000 in
theorem kL_asks_4_no (l : Launch) (hl0 : l.stackTraces = false) (G : va_G) (T : Nat → ClassId) (na mo nm rs : Nat) (D mny : Nat → Int32) (nA rA : Nat → Nat) (j x2 x3 : Nat) (N f g : Nat → Int32) (p0 : Int32) (z1 : Int32) (sz : Nat) (hj : okI p0 16 = true → p0 = nI j ∧ j < 16) (hk : ¬ (kNam p0) = 0) : Met l yL_asks wsL_asks ({ frames := 8, cells := 1, slots := 6, locals := 123 } : Room) (PL_asks_4_no G T na mo nm rs D mny nA rA j x2 x3 N f g p0 z1 sz) (QL_asks_4_no G T na mo nm rs D mny nA rA j x2 x3 N f g p0 z1 sz) 1 6 (va_A ((cA T na mo nm rs D mny nA rA) ++ (cN T (nA j) x2 x3 N f g)) sz) := by
  refine va_MetW (cc := cL_asks) (maxL := 5) (ret := (some .int)) (hh := [(0, 107, 108, 41)]) (by decide) rfl ?_
  intro p e s m args below meth c s₁ B hml hv
  obtain ⟨rfl, hsz, hP, hK, hD0, hE⟩ := hv
  have hx := B.exec
  have hb := B.bytes
  have hr := B.returns
  have hts := atoms_spec (ws := wsL_asks) B.pre
  have hown : s.vm.findClass RL = some m.cls := findClass_of_methodNamed B.named
  have hlocks := B.notSynchronized
  have htab : c.exceptionTable.toList = tableOf [(0, 107, 108, 41)] := vx_table (x := yL_asks) B (hts _ List.mem_cons_self)
  subst hsz
  have hD := hD0.self (sz := s.heap.size)
  have hA : ∀ q : Nat, s.heap.size ≤ q → (va_A ((cA T na mo nm rs D mny nA rA) ++ (cN T (nA j) x2 x3 N f g)) s.heap.size) q := fun q h => Or.inr h
  have hS : va_S (va_A ((cA T na mo nm rs D mny nA rA) ++ (cN T (nA j) x2 x3 N f g)) s.heap.size) s.heap s.heap [] := va_S.rf
  have hl := lv_entry ([.ref na, .int 4, .int p0, .int z1]) (n := 5) (Nat.le_of_ble_eq_true rfl)
  rw [lg_entry_eq]
  generalize (lg_sl ([.ref na, .int 4, .int p0, .int z1]) ++ List.replicate (5 - (lg_sl ([.ref na, .int 4, .int p0, .int z1])).length) Slot.unset).toArray = ls at hl ⊢
  have hl : lv_has ls 5 [(0, .ref na), (1, .int 4), (2, .int p0), (3, .int z1)] := hl
  have hP : va_P G vwCl ((cA T na mo nm rs D mny nA rA) ++ (cN T (nA j) x2 x3 N f g)) s.heap := hP
  refine lv_iload_n hx hb dL_asks_0 rfl (lv_at hl 1 rfl) ?_
  refine lv_if_ne (tgt := 12) hx hb dL_asks_1 (by decide) (fun c1 => ?_) (fun c1 => ?_)
  · skip
    refine lv_iload_n hx hb dL_asks_12 rfl (lv_at hl 1 rfl) ?_
    refine lv_iconst (v := 1) hx hb dL_asks_13 (by decide) ?_
    refine lv_icmp_ne (tgt := 25) hx hb dL_asks_14 (by decide) (fun c14 => ?_) (fun c14 => ?_)
    · skip
      refine lv_iload_n hx hb dL_asks_25 rfl (lv_at hl 1 rfl) ?_
      refine lv_iconst (v := 2) hx hb dL_asks_26 (by decide) ?_
      refine lv_icmp_ne (tgt := 38) hx hb dL_asks_27 (by decide) (fun c27 => ?_) (fun c27 => ?_)
      · skip
        refine lv_iload_n hx hb dL_asks_38 rfl (lv_at hl 1 rfl) ?_
        refine lv_iconst (v := 3) hx hb dL_asks_39 (by decide) ?_
        refine lv_icmp_ne (tgt := 52) hx hb dL_asks_40 (by decide) (fun c40 => ?_) (fun c40 => ?_)
        · skip
          refine lv_iload_n hx hb dL_asks_52 rfl (lv_at hl 1 rfl) ?_
          refine lv_iconst (v := 4) hx hb dL_asks_53 (by decide) ?_
          refine lv_icmp_ne (tgt := 65) hx hb dL_asks_54 (by decide) (fun c54 => ?_) (fun c54 => ?_)
          · exact absurd c54 (by decide)
          · skip
            refine lv_aload_n hx hb dL_asks_57 rfl (lv_at hl 0 rfl) ?_
            refine lv_iload_n hx hb dL_asks_58 rfl (lv_at hl 2 rfl) ?_
            refine gxi (vx_runV (As := [.int p0]) (rest := []) ⟨hx, hb, hml, hown, hts⟩ (kX2_owner l hl0 G T na mo nm rs D mny nA rA j x2 x3 N f g p0 _ hj) (cwV 1 hts gL_asks_X2_owner rfl rfl rfl (by decide +kernel) ⟨Nat.le_of_ble_eq_true rfl, Nat.le_of_ble_eq_true rfl⟩) ⟨gblind, va_recv hK hP (ci := 2) (q0 := 0) rfl rfl, gpre hE hK hP hD hS hA [0, 1, 2, 3, 4, 5, 6] rfl rfl⟩ rfl rfl hl.1 rfl (lv_room (Nat.le_of_ble_eq_true rfl)) dL_asks_59 ⟨Nat.le_of_ble_eq_true rfl, Nat.le_of_ble_eq_true rfl⟩) hP hD hS hA [0, 1, 2, 3, 4, 5, 6] rfl rfl (fun E9 ce9 q9 H locs he hP hD hS hce hcv hcl => ?_) (fun r9 H locs hw hP hD hS => ?_)
            · skip
              have hP : va_P G vwCl ((cA T na mo nm rs D mny nA rA) ++ (cN T (nA j) x2 x3 N f g)) H := hP
              have hD : va_D (va_A ((cA T na mo nm rs D mny nA rA) ++ (cN T (nA j) x2 x3 N f g)) s.heap.size) ((cA T na mo nm rs D mny nA rA) ++ (cN T (nA j) x2 x3 N f g)) := hD
              rcases he with ⟨hk9, rfl⟩ | ⟨hk9, rfl⟩ | ⟨hk9, rfl⟩
              · skip
                refine vx_catch (own := RL) (name := "java/lang/IndexOutOfBoundsException") hown [] ⟨0, 107, 108, 41⟩ [] (htab.trans rfl) (fun z hz => nomatch hz) rfl (by decide) (hts (.classLink RL 41 "java/lang/IndexOutOfBoundsException") (by decide +kernel)) (va_Nw.use rfl (hE.1 (.castable "java/lang/IndexOutOfBoundsException" "java/lang/IndexOutOfBoundsException") (by decide +kernel))) hce hcv hcl ?_
                refine lv_astore (lv' := [(4, .ref q9), (0, .ref na), (1, .int 4), (2, .int p0), (3, .int z1)]) hx hb dL_asks_108 hl (by decide) rfl (fun ls hl => ?_)
                refine lv_bipush (v := (-30)) hx hb dL_asks_110 (by decide) ?_
                exact W.iret (v := (-30)) hx hb hr (fun t ht9 hW => ⟨⟨(-30), (), rfl, by rw [hk9]; rfl, gBi ht9 (gfin hP (rfl))⟩, hS.F ht9⟩) hS.2.2 dL_asks_112
              · skip
                exact absurd hk9 (by simp only [kNam]; repeat (first | split | decide))
              · skip
                exact absurd hk9 (by simp only [kNam]; repeat (first | split | decide))
            · skip
              have hP : va_P G vwCl ((cA T na mo nm rs D mny nA rA) ++ (cN T (nA j) x2 x3 N f g)) H := hP
              have hD : va_D (va_A ((cA T na mo nm rs D mny nA rA) ++ (cN T (nA j) x2 x3 N f g)) s.heap.size) ((cA T na mo nm rs D mny nA rA) ++ (cN T (nA j) x2 x3 N f g)) := hD
              exact absurd hw.1 hk
        · exact absurd c40 (by decide)
      · exact absurd c27 (by decide)
    · exact absurd c14 (by decide)
  · exact absurd c1 (by decide)
abbrev PL_asks_5_ok (G : va_G) (T : Nat → ClassId) (na mo nm rs : Nat) (D mny : Nat → Int32) (nA rA : Nat → Nat) (j x2 x3 : Nat) (N f g : Nat → Int32) (p0 : Int32) (z1 : Int32) (sz : Nat) : Array Value → State → Prop := gPc G T [.ref na, .int 5, .int p0, .int z1] ((cA T na mo nm rs D mny nA rA) ++ (cN T (nA j) x2 x3 N f g)) sz
abbrev QL_asks_5_ok (G : va_G) (T : Nat → ClassId) (na mo nm rs : Nat) (D mny : Nat → Int32) (nA rA : Nat → Nat) (j x2 x3 : Nat) (N f g : Nat → Int32) (p0 : Int32) (z1 : Int32) (sz : Nat) : Array Value → State → Outcome → State → Prop := va_Qi (fun (r : Int32) (_ : Unit) => r = sDay N) (gB G ((cA T na mo nm rs D mny nA rA) ++ (cN T (nA j) x2 x3 N f g))) (va_A ((cA T na mo nm rs D mny nA rA) ++ (cN T (nA j) x2 x3 N f g)) sz)
set_option maxHeartbeats 4000000 in
set_option maxRecDepth 100000 in
theorem kL_asks_5_ok (l : Launch) (hl0 : l.stackTraces = false) (G : va_G) (T : Nat → ClassId) (na mo nm rs : Nat) (D mny : Nat → Int32) (nA rA : Nat → Nat) (j x2 x3 : Nat) (N f g : Nat → Int32) (p0 : Int32) (z1 : Int32) (sz : Nat) (hj : okI p0 16 = true → p0 = nI j ∧ j < 16) (hk : (kNam p0) = 0) : Met l yL_asks wsL_asks ({ frames := 8, cells := 1, slots := 6, locals := 123 } : Room) (PL_asks_5_ok G T na mo nm rs D mny nA rA j x2 x3 N f g p0 z1 sz) (QL_asks_5_ok G T na mo nm rs D mny nA rA j x2 x3 N f g p0 z1 sz) 1 6 (va_A ((cA T na mo nm rs D mny nA rA) ++ (cN T (nA j) x2 x3 N f g)) sz) := by
  refine va_MetW (cc := cL_asks) (maxL := 5) (ret := (some .int)) (hh := [(0, 107, 108, 41)]) (by decide) rfl ?_
  intro p e s m args below meth c s₁ B hml hv
  obtain ⟨rfl, hsz, hP, hK, hD0, hE⟩ := hv
  have hx := B.exec
  have hb := B.bytes
  have hr := B.returns
  have hts := atoms_spec (ws := wsL_asks) B.pre
  have hown : s.vm.findClass RL = some m.cls := findClass_of_methodNamed B.named
  have hlocks := B.notSynchronized
  have htab : c.exceptionTable.toList = tableOf [(0, 107, 108, 41)] := vx_table (x := yL_asks) B (hts _ List.mem_cons_self)
  subst hsz
  have hD := hD0.self (sz := s.heap.size)
  have hA : ∀ q : Nat, s.heap.size ≤ q → (va_A ((cA T na mo nm rs D mny nA rA) ++ (cN T (nA j) x2 x3 N f g)) s.heap.size) q := fun q h => Or.inr h
  have hS : va_S (va_A ((cA T na mo nm rs D mny nA rA) ++ (cN T (nA j) x2 x3 N f g)) s.heap.size) s.heap s.heap [] := va_S.rf
  have hl := lv_entry ([.ref na, .int 5, .int p0, .int z1]) (n := 5) (Nat.le_of_ble_eq_true rfl)
  rw [lg_entry_eq]
  generalize (lg_sl ([.ref na, .int 5, .int p0, .int z1]) ++ List.replicate (5 - (lg_sl ([.ref na, .int 5, .int p0, .int z1])).length) Slot.unset).toArray = ls at hl ⊢
  have hl : lv_has ls 5 [(0, .ref na), (1, .int 5), (2, .int p0), (3, .int z1)] := hl
  have hP : va_P G vwCl ((cA T na mo nm rs D mny nA rA) ++ (cN T (nA j) x2 x3 N f g)) s.heap := hP
  refine lv_iload_n hx hb dL_asks_0 rfl (lv_at hl 1 rfl) ?_
  refine lv_if_ne (tgt := 12) hx hb dL_asks_1 (by decide) (fun c1 => ?_) (fun c1 => ?_)
  · skip
    refine lv_iload_n hx hb dL_asks_12 rfl (lv_at hl 1 rfl) ?_
    refine lv_iconst (v := 1) hx hb dL_asks_13 (by decide) ?_
    refine lv_icmp_ne (tgt := 25) hx hb dL_asks_14 (by decide) (fun c14 => ?_) (fun c14 => ?_)
    · skip
      refine lv_iload_n hx hb dL_asks_25 rfl (lv_at hl 1 rfl) ?_
      refine lv_iconst (v := 2) hx hb dL_asks_26 (by decide) ?_
      refine lv_icmp_ne (tgt := 38) hx hb dL_asks_27 (by decide) (fun c27 => ?_) (fun c27 => ?_)
      · skip
        refine lv_iload_n hx hb dL_asks_38 rfl (lv_at hl 1 rfl) ?_
        refine lv_iconst (v := 3) hx hb dL_asks_39 (by decide) ?_
        refine lv_icmp_ne (tgt := 52) hx hb dL_asks_40 (by decide) (fun c40 => ?_) (fun c40 => ?_)
        · skip
          refine lv_iload_n hx hb dL_asks_52 rfl (lv_at hl 1 rfl) ?_
          refine lv_iconst (v := 4) hx hb dL_asks_53 (by decide) ?_
          refine lv_icmp_ne (tgt := 65) hx hb dL_asks_54 (by decide) (fun c54 => ?_) (fun c54 => ?_)
          · skip
            refine lv_iload_n hx hb dL_asks_65 rfl (lv_at hl 1 rfl) ?_
            refine lv_iconst (v := 5) hx hb dL_asks_66 (by decide) ?_
            refine lv_icmp_ne (tgt := 78) hx hb dL_asks_67 (by decide) (fun c67 => ?_) (fun c67 => ?_)
            · exact absurd c67 (by decide)
            · skip
              refine lv_aload_n hx hb dL_asks_70 rfl (lv_at hl 0 rfl) ?_
              refine lv_iload_n hx hb dL_asks_71 rfl (lv_at hl 2 rfl) ?_
              refine gxi (vx_runV (As := [.int p0]) (rest := []) ⟨hx, hb, hml, hown, hts⟩ (kX2_next l hl0 G T na mo nm rs D mny nA rA j x2 x3 N f g p0 _ hj) (cwV 1 hts gL_asks_X2_next rfl rfl rfl (by decide +kernel) ⟨Nat.le_of_ble_eq_true rfl, Nat.le_of_ble_eq_true rfl⟩) ⟨gblind, va_recv hK hP (ci := 2) (q0 := 0) rfl rfl, gpre hE hK hP hD hS hA [0, 1, 2, 3, 4, 5, 6] rfl rfl⟩ rfl rfl hl.1 rfl (lv_room (Nat.le_of_ble_eq_true rfl)) dL_asks_72 ⟨Nat.le_of_ble_eq_true rfl, Nat.le_of_ble_eq_true rfl⟩) hP hD hS hA [0, 1, 2, 3, 4, 5, 6] rfl rfl (fun E9 ce9 q9 H locs he hP hD hS hce hcv hcl => ?_) (fun r9 H locs hw hP hD hS => ?_)
              · skip
                have hP : va_P G vwCl ((cA T na mo nm rs D mny nA rA) ++ (cN T (nA j) x2 x3 N f g)) H := hP
                have hD : va_D (va_A ((cA T na mo nm rs D mny nA rA) ++ (cN T (nA j) x2 x3 N f g)) s.heap.size) ((cA T na mo nm rs D mny nA rA) ++ (cN T (nA j) x2 x3 N f g)) := hD
                rcases he with ⟨hk9, rfl⟩ | ⟨hk9, rfl⟩ | ⟨hk9, rfl⟩
                · skip
                  exact absurd (hk.symm.trans hk9) (by decide)
                · skip
                  exact absurd (hk.symm.trans hk9) (by decide)
                · skip
                  exact absurd (hk.symm.trans hk9) (by decide)
              · skip
                have hP : va_P G vwCl ((cA T na mo nm rs D mny nA rA) ++ (cN T (nA j) x2 x3 N f g)) H := hP
                have hD : va_D (va_A ((cA T na mo nm rs D mny nA rA) ++ (cN T (nA j) x2 x3 N f g)) s.heap.size) ((cA T na mo nm rs D mny nA rA) ++ (cN T (nA j) x2 x3 N f g)) := hD
                obtain ⟨hok72, hw⟩ := hw
                subst hw
                refine lv_goto (tgt := 107) hx hb dL_asks_75 (by decide) ?_
                exact W.iret (v := sDay N) hx hb hr (fun t ht9 hW => ⟨⟨sDay N, (), rfl, rfl, gBi ht9 (gfin hP (rfl))⟩, hS.F ht9⟩) hS.2.2 dL_asks_107
          · exact absurd c54 (by decide)
        · exact absurd c40 (by decide)
      · exact absurd c27 (by decide)
    · exact absurd c14 (by decide)
  · exact absurd c1 (by decide)
abbrev PL_asks_5_no (G : va_G) (T : Nat → ClassId) (na mo nm rs : Nat) (D mny : Nat → Int32) (nA rA : Nat → Nat) (j x2 x3 : Nat) (N f g : Nat → Int32) (p0 : Int32) (z1 : Int32) (sz : Nat) : Array Value → State → Prop := gPc G T [.ref na, .int 5, .int p0, .int z1] ((cA T na mo nm rs D mny nA rA) ++ (cN T (nA j) x2 x3 N f g)) sz
abbrev QL_asks_5_no (G : va_G) (T : Nat → ClassId) (na mo nm rs : Nat) (D mny : Nat → Int32) (nA rA : Nat → Nat) (j x2 x3 : Nat) (N f g : Nat → Int32) (p0 : Int32) (z1 : Int32) (sz : Nat) : Array Value → State → Outcome → State → Prop := va_Qi (fun (r : Int32) (_ : Unit) => r = wD (kNam p0)) (gB G ((cA T na mo nm rs D mny nA rA) ++ (cN T (nA j) x2 x3 N f g))) (va_A ((cA T na mo nm rs D mny nA rA) ++ (cN T (nA j) x2 x3 N f g)) sz)
set_option maxHeartbeats 4000000 in
set_option maxRecDepth 100000 in
theorem kL_asks_5_no (l : Launch) (hl0 : l.stackTraces = false) (G : va_G) (T : Nat → ClassId) (na mo nm rs : Nat) (D mny : Nat → Int32) (nA rA : Nat → Nat) (j x2 x3 : Nat) (N f g : Nat → Int32) (p0 : Int32) (z1 : Int32) (sz : Nat) (hj : okI p0 16 = true → p0 = nI j ∧ j < 16) (hk : ¬ (kNam p0) = 0) : Met l yL_asks wsL_asks ({ frames := 8, cells := 1, slots := 6, locals := 123 } : Room) (PL_asks_5_no G T na mo nm rs D mny nA rA j x2 x3 N f g p0 z1 sz) (QL_asks_5_no G T na mo nm rs D mny nA rA j x2 x3 N f g p0 z1 sz) 1 6 (va_A ((cA T na mo nm rs D mny nA rA) ++ (cN T (nA j) x2 x3 N f g)) sz) := by
  refine va_MetW (cc := cL_asks) (maxL := 5) (ret := (some .int)) (hh := [(0, 107, 108, 41)]) (by decide) rfl ?_
  intro p e s m args below meth c s₁ B hml hv
  obtain ⟨rfl, hsz, hP, hK, hD0, hE⟩ := hv
  have hx := B.exec
  have hb := B.bytes
  have hr := B.returns
  have hts := atoms_spec (ws := wsL_asks) B.pre
  have hown : s.vm.findClass RL = some m.cls := findClass_of_methodNamed B.named
  have hlocks := B.notSynchronized
  have htab : c.exceptionTable.toList = tableOf [(0, 107, 108, 41)] := vx_table (x := yL_asks) B (hts _ List.mem_cons_self)
  subst hsz
  have hD := hD0.self (sz := s.heap.size)
  have hA : ∀ q : Nat, s.heap.size ≤ q → (va_A ((cA T na mo nm rs D mny nA rA) ++ (cN T (nA j) x2 x3 N f g)) s.heap.size) q := fun q h => Or.inr h
  have hS : va_S (va_A ((cA T na mo nm rs D mny nA rA) ++ (cN T (nA j) x2 x3 N f g)) s.heap.size) s.heap s.heap [] := va_S.rf
  have hl := lv_entry ([.ref na, .int 5, .int p0, .int z1]) (n := 5) (Nat.le_of_ble_eq_true rfl)
  rw [lg_entry_eq]
  generalize (lg_sl ([.ref na, .int 5, .int p0, .int z1]) ++ List.replicate (5 - (lg_sl ([.ref na, .int 5, .int p0, .int z1])).length) Slot.unset).toArray = ls at hl ⊢
  have hl : lv_has ls 5 [(0, .ref na), (1, .int 5), (2, .int p0), (3, .int z1)] := hl
  have hP : va_P G vwCl ((cA T na mo nm rs D mny nA rA) ++ (cN T (nA j) x2 x3 N f g)) s.heap := hP
  refine lv_iload_n hx hb dL_asks_0 rfl (lv_at hl 1 rfl) ?_
  refine lv_if_ne (tgt := 12) hx hb dL_asks_1 (by decide) (fun c1 => ?_) (fun c1 => ?_)
  · skip
    refine lv_iload_n hx hb dL_asks_12 rfl (lv_at hl 1 rfl) ?_
    refine lv_iconst (v := 1) hx hb dL_asks_13 (by decide) ?_
    refine lv_icmp_ne (tgt := 25) hx hb dL_asks_14 (by decide) (fun c14 => ?_) (fun c14 => ?_)
    · skip
      refine lv_iload_n hx hb dL_asks_25 rfl (lv_at hl 1 rfl) ?_
      refine lv_iconst (v := 2) hx hb dL_asks_26 (by decide) ?_
      refine lv_icmp_ne (tgt := 38) hx hb dL_asks_27 (by decide) (fun c27 => ?_) (fun c27 => ?_)
      · skip
        refine lv_iload_n hx hb dL_asks_38 rfl (lv_at hl 1 rfl) ?_
        refine lv_iconst (v := 3) hx hb dL_asks_39 (by decide) ?_
        refine lv_icmp_ne (tgt := 52) hx hb dL_asks_40 (by decide) (fun c40 => ?_) (fun c40 => ?_)
        · skip
          refine lv_iload_n hx hb dL_asks_52 rfl (lv_at hl 1 rfl) ?_
          refine lv_iconst (v := 4) hx hb dL_asks_53 (by decide) ?_
          refine lv_icmp_ne (tgt := 65) hx hb dL_asks_54 (by decide) (fun c54 => ?_) (fun c54 => ?_)
          · skip
            refine lv_iload_n hx hb dL_asks_65 rfl (lv_at hl 1 rfl) ?_
            refine lv_iconst (v := 5) hx hb dL_asks_66 (by decide) ?_
            refine lv_icmp_ne (tgt := 78) hx hb dL_asks_67 (by decide) (fun c67 => ?_) (fun c67 => ?_)
            · exact absurd c67 (by decide)
            · skip
              refine lv_aload_n hx hb dL_asks_70 rfl (lv_at hl 0 rfl) ?_
              refine lv_iload_n hx hb dL_asks_71 rfl (lv_at hl 2 rfl) ?_
              refine gxi (vx_runV (As := [.int p0]) (rest := []) ⟨hx, hb, hml, hown, hts⟩ (kX2_next l hl0 G T na mo nm rs D mny nA rA j x2 x3 N f g p0 _ hj) (cwV 1 hts gL_asks_X2_next rfl rfl rfl (by decide +kernel) ⟨Nat.le_of_ble_eq_true rfl, Nat.le_of_ble_eq_true rfl⟩) ⟨gblind, va_recv hK hP (ci := 2) (q0 := 0) rfl rfl, gpre hE hK hP hD hS hA [0, 1, 2, 3, 4, 5, 6] rfl rfl⟩ rfl rfl hl.1 rfl (lv_room (Nat.le_of_ble_eq_true rfl)) dL_asks_72 ⟨Nat.le_of_ble_eq_true rfl, Nat.le_of_ble_eq_true rfl⟩) hP hD hS hA [0, 1, 2, 3, 4, 5, 6] rfl rfl (fun E9 ce9 q9 H locs he hP hD hS hce hcv hcl => ?_) (fun r9 H locs hw hP hD hS => ?_)
              · skip
                have hP : va_P G vwCl ((cA T na mo nm rs D mny nA rA) ++ (cN T (nA j) x2 x3 N f g)) H := hP
                have hD : va_D (va_A ((cA T na mo nm rs D mny nA rA) ++ (cN T (nA j) x2 x3 N f g)) s.heap.size) ((cA T na mo nm rs D mny nA rA) ++ (cN T (nA j) x2 x3 N f g)) := hD
                rcases he with ⟨hk9, rfl⟩ | ⟨hk9, rfl⟩ | ⟨hk9, rfl⟩
                · skip
                  refine vx_catch (own := RL) (name := "java/lang/IndexOutOfBoundsException") hown [] ⟨0, 107, 108, 41⟩ [] (htab.trans rfl) (fun z hz => nomatch hz) rfl (by decide) (hts (.classLink RL 41 "java/lang/IndexOutOfBoundsException") (by decide +kernel)) (va_Nw.use rfl (hE.1 (.castable "java/lang/IndexOutOfBoundsException" "java/lang/IndexOutOfBoundsException") (by decide +kernel))) hce hcv hcl ?_
                  refine lv_astore (lv' := [(4, .ref q9), (0, .ref na), (1, .int 5), (2, .int p0), (3, .int z1)]) hx hb dL_asks_108 hl (by decide) rfl (fun ls hl => ?_)
                  refine lv_bipush (v := (-30)) hx hb dL_asks_110 (by decide) ?_
                  exact W.iret (v := (-30)) hx hb hr (fun t ht9 hW => ⟨⟨(-30), (), rfl, by rw [hk9]; rfl, gBi ht9 (gfin hP (rfl))⟩, hS.F ht9⟩) hS.2.2 dL_asks_112
                · skip
                  exact absurd hk9 (by simp only [kNam]; repeat (first | split | decide))
                · skip
                  exact absurd hk9 (by simp only [kNam]; repeat (first | split | decide))
              · skip
                have hP : va_P G vwCl ((cA T na mo nm rs D mny nA rA) ++ (cN T (nA j) x2 x3 N f g)) H := hP
                have hD : va_D (va_A ((cA T na mo nm rs D mny nA rA) ++ (cN T (nA j) x2 x3 N f g)) s.heap.size) ((cA T na mo nm rs D mny nA rA) ++ (cN T (nA j) x2 x3 N f g)) := hD
                exact absurd hw.1 hk
          · exact absurd c54 (by decide)
        · exact absurd c40 (by decide)
      · exact absurd c27 (by decide)
    · exact absurd c14 (by decide)
  · exact absurd c1 (by decide)
abbrev PL_asks_6_ok (G : va_G) (T : Nat → ClassId) (na mo nm rs : Nat) (D mny : Nat → Int32) (nA rA : Nat → Nat) (j x2 x3 : Nat) (N f g : Nat → Int32) (i y2 y3 y4 y5 : Nat) (rk rf rg rh : Nat → Int32) (p0 p1 : Int32) (sz : Nat) : Array Value → State → Prop := gPc G T [.ref na, .int 6, .int p0, .int p1] ((cA T na mo nm rs D mny nA rA) ++ (cN T (nA j) x2 x3 N f g) ++ (cR T (rA i) y2 y3 y4 y5 rk rf rg rh)) sz
abbrev QL_asks_6_ok (G : va_G) (T : Nat → ClassId) (na mo nm rs : Nat) (D mny : Nat → Int32) (nA rA : Nat → Nat) (j x2 x3 : Nat) (N f g : Nat → Int32) (i y2 y3 y4 y5 : Nat) (rk rf rg rh : Nat → Int32) (p0 p1 : Int32) (sz : Nat) : Array Value → State → Outcome → State → Prop := va_Qi (fun (r : Int32) (_ : Unit) => r = sLook (sFresh rk rg rh j (D 3)) rf j (sAns N) j) (gB G ((cA T na mo nm rs D mny nA rA) ++ (cN T (nA j) x2 x3 N f g) ++ (cR T (rA i) y2 y3 y4 y5 (sLook (sFresh rk rg rh j (D 3)) rk j 1) (sLook (sFresh rk rg rh j (D 3)) rf j (sAns N)) (sLook (sFresh rk rg rh j (D 3)) rg j (sLife N)) (sLook (sFresh rk rg rh j (D 3)) rh j (D 3))))) (va_A ((cA T na mo nm rs D mny nA rA) ++ (cN T (nA j) x2 x3 N f g) ++ (cR T (rA i) y2 y3 y4 y5 rk rf rg rh)) sz)
set_option maxHeartbeats 4000000 in
set_option maxRecDepth 100000 in
theorem kL_asks_6_ok (l : Launch) (hl0 : l.stackTraces = false) (G : va_G) (T : Nat → ClassId) (na mo nm rs : Nat) (D mny : Nat → Int32) (nA rA : Nat → Nat) (j x2 x3 : Nat) (N f g : Nat → Int32) (i y2 y3 y4 y5 : Nat) (rk rf rg rh : Nat → Int32) (p0 p1 : Int32) (sz : Nat) (hr9 : okI p0 3 = true → p0 = nI i ∧ i < 3) (hj : okI p1 16 = true → p1 = nI j ∧ j < 16) (hk : (kRN p0 p1) = 0) : Met l yL_asks wsL_asks ({ frames := 8, cells := 2, slots := 12, locals := 125 } : Room) (PL_asks_6_ok G T na mo nm rs D mny nA rA j x2 x3 N f g i y2 y3 y4 y5 rk rf rg rh p0 p1 sz) (QL_asks_6_ok G T na mo nm rs D mny nA rA j x2 x3 N f g i y2 y3 y4 y5 rk rf rg rh p0 p1 sz) 2 12 (va_A ((cA T na mo nm rs D mny nA rA) ++ (cN T (nA j) x2 x3 N f g) ++ (cR T (rA i) y2 y3 y4 y5 rk rf rg rh)) sz) := by
  refine va_MetW (cc := cL_asks) (maxL := 5) (ret := (some .int)) (hh := [(0, 107, 108, 41)]) (by decide) rfl ?_
  intro p e s m args below meth c s₁ B hml hv
  obtain ⟨rfl, hsz, hP, hK, hD0, hE⟩ := hv
  have hx := B.exec
  have hb := B.bytes
  have hr := B.returns
  have hts := atoms_spec (ws := wsL_asks) B.pre
  have hown : s.vm.findClass RL = some m.cls := findClass_of_methodNamed B.named
  have hlocks := B.notSynchronized
  have htab : c.exceptionTable.toList = tableOf [(0, 107, 108, 41)] := vx_table (x := yL_asks) B (hts _ List.mem_cons_self)
  subst hsz
  have hD := hD0.self (sz := s.heap.size)
  have hA : ∀ q : Nat, s.heap.size ≤ q → (va_A ((cA T na mo nm rs D mny nA rA) ++ (cN T (nA j) x2 x3 N f g) ++ (cR T (rA i) y2 y3 y4 y5 rk rf rg rh)) s.heap.size) q := fun q h => Or.inr h
  have hS : va_S (va_A ((cA T na mo nm rs D mny nA rA) ++ (cN T (nA j) x2 x3 N f g) ++ (cR T (rA i) y2 y3 y4 y5 rk rf rg rh)) s.heap.size) s.heap s.heap [] := va_S.rf
  have hl := lv_entry ([.ref na, .int 6, .int p0, .int p1]) (n := 5) (Nat.le_of_ble_eq_true rfl)
  rw [lg_entry_eq]
  generalize (lg_sl ([.ref na, .int 6, .int p0, .int p1]) ++ List.replicate (5 - (lg_sl ([.ref na, .int 6, .int p0, .int p1])).length) Slot.unset).toArray = ls at hl ⊢
  have hl : lv_has ls 5 [(0, .ref na), (1, .int 6), (2, .int p0), (3, .int p1)] := hl
  have hP : va_P G vwCl ((cA T na mo nm rs D mny nA rA) ++ (cN T (nA j) x2 x3 N f g) ++ (cR T (rA i) y2 y3 y4 y5 rk rf rg rh)) s.heap := hP
  refine lv_iload_n hx hb dL_asks_0 rfl (lv_at hl 1 rfl) ?_
  refine lv_if_ne (tgt := 12) hx hb dL_asks_1 (by decide) (fun c1 => ?_) (fun c1 => ?_)
  · skip
    refine lv_iload_n hx hb dL_asks_12 rfl (lv_at hl 1 rfl) ?_
    refine lv_iconst (v := 1) hx hb dL_asks_13 (by decide) ?_
    refine lv_icmp_ne (tgt := 25) hx hb dL_asks_14 (by decide) (fun c14 => ?_) (fun c14 => ?_)
    · skip
      refine lv_iload_n hx hb dL_asks_25 rfl (lv_at hl 1 rfl) ?_
      refine lv_iconst (v := 2) hx hb dL_asks_26 (by decide) ?_
      refine lv_icmp_ne (tgt := 38) hx hb dL_asks_27 (by decide) (fun c27 => ?_) (fun c27 => ?_)
      · skip
        refine lv_iload_n hx hb dL_asks_38 rfl (lv_at hl 1 rfl) ?_
        refine lv_iconst (v := 3) hx hb dL_asks_39 (by decide) ?_
        refine lv_icmp_ne (tgt := 52) hx hb dL_asks_40 (by decide) (fun c40 => ?_) (fun c40 => ?_)
        · skip
          refine lv_iload_n hx hb dL_asks_52 rfl (lv_at hl 1 rfl) ?_
          refine lv_iconst (v := 4) hx hb dL_asks_53 (by decide) ?_
          refine lv_icmp_ne (tgt := 65) hx hb dL_asks_54 (by decide) (fun c54 => ?_) (fun c54 => ?_)
          · skip
            refine lv_iload_n hx hb dL_asks_65 rfl (lv_at hl 1 rfl) ?_
            refine lv_iconst (v := 5) hx hb dL_asks_66 (by decide) ?_
            refine lv_icmp_ne (tgt := 78) hx hb dL_asks_67 (by decide) (fun c67 => ?_) (fun c67 => ?_)
            · skip
              refine lv_iload_n hx hb dL_asks_78 rfl (lv_at hl 1 rfl) ?_
              refine lv_bipush (v := 6) hx hb dL_asks_79 (by decide) ?_
              refine lv_icmp_ne (tgt := 93) hx hb dL_asks_81 (by decide) (fun c81 => ?_) (fun c81 => ?_)
              · exact absurd c81 (by decide)
              · skip
                refine lv_aload_n hx hb dL_asks_84 rfl (lv_at hl 0 rfl) ?_
                refine lv_iload_n hx hb dL_asks_85 rfl (lv_at hl 2 rfl) ?_
                refine lv_iload_n hx hb dL_asks_86 rfl (lv_at hl 3 rfl) ?_
                refine gxi (vx_runV (As := [.int p0, .int p1]) (rest := []) ⟨hx, hb, hml, hown, hts⟩ (kX2_lookUp l hl0 G T na mo nm rs D mny nA rA j x2 x3 N f g i y2 y3 y4 y5 rk rf rg rh p0 p1 _ hr9 hj) (cwV 2 hts gL_asks_X2_lookUp rfl rfl rfl (by decide +kernel) ⟨Nat.le_of_ble_eq_true rfl, Nat.le_of_ble_eq_true rfl⟩) ⟨gblind, va_recv hK hP (ci := 2) (q0 := 0) rfl rfl, gpre hE hK hP hD hS hA [0, 1, 2, 3, 4, 5, 6, 7, 8, 9, 10, 11] rfl rfl⟩ rfl rfl hl.1 rfl (lv_room (Nat.le_of_ble_eq_true rfl)) dL_asks_87 ⟨Nat.le_of_ble_eq_true rfl, Nat.le_of_ble_eq_true rfl⟩) hP hD hS hA [0, 1, 2, 3, 4, 5, 6, 7, 8, 9, 10, 11] rfl rfl (fun E9 ce9 q9 H locs he hP hD hS hce hcv hcl => ?_) (fun r9 H locs hw hP hD hS => ?_)
                · skip
                  have hP : va_P G vwCl ((cA T na mo nm rs D mny nA rA) ++ (cN T (nA j) x2 x3 N f g) ++ (cR T (rA i) y2 y3 y4 y5 rk rf rg rh)) H := hP
                  have hD : va_D (va_A ((cA T na mo nm rs D mny nA rA) ++ (cN T (nA j) x2 x3 N f g) ++ (cR T (rA i) y2 y3 y4 y5 rk rf rg rh)) s.heap.size) ((cA T na mo nm rs D mny nA rA) ++ (cN T (nA j) x2 x3 N f g) ++ (cR T (rA i) y2 y3 y4 y5 rk rf rg rh)) := hD
                  rcases he with ⟨hk9, rfl⟩ | ⟨hk9, rfl⟩ | ⟨hk9, rfl⟩
                  · skip
                    exact absurd (hk.symm.trans hk9) (by decide)
                  · skip
                    exact absurd (hk.symm.trans hk9) (by decide)
                  · skip
                    exact absurd (hk.symm.trans hk9) (by decide)
                · skip
                  have hP : va_P G vwCl ((cA T na mo nm rs D mny nA rA) ++ (cN T (nA j) x2 x3 N f g) ++ (cR T (rA i) y2 y3 y4 y5 (sLook (sFresh rk rg rh j (D 3)) rk j 1) (sLook (sFresh rk rg rh j (D 3)) rf j (sAns N)) (sLook (sFresh rk rg rh j (D 3)) rg j (sLife N)) (sLook (sFresh rk rg rh j (D 3)) rh j (D 3)))) H := hP
                  have hD : va_D (va_A ((cA T na mo nm rs D mny nA rA) ++ (cN T (nA j) x2 x3 N f g) ++ (cR T (rA i) y2 y3 y4 y5 rk rf rg rh)) s.heap.size) ((cA T na mo nm rs D mny nA rA) ++ (cN T (nA j) x2 x3 N f g) ++ (cR T (rA i) y2 y3 y4 y5 (sLook (sFresh rk rg rh j (D 3)) rk j 1) (sLook (sFresh rk rg rh j (D 3)) rf j (sAns N)) (sLook (sFresh rk rg rh j (D 3)) rg j (sLife N)) (sLook (sFresh rk rg rh j (D 3)) rh j (D 3)))) := hD
                  obtain ⟨hok87, hw⟩ := hw
                  subst hw
                  refine lv_goto (tgt := 107) hx hb dL_asks_90 (by decide) ?_
                  exact W.iret (v := sLook (sFresh rk rg rh j (D 3)) rf j (sAns N) j) hx hb hr (fun t ht9 hW => ⟨⟨sLook (sFresh rk rg rh j (D 3)) rf j (sAns N) j, (), rfl, rfl, gBi ht9 (gfin hP (rfl))⟩, hS.F ht9⟩) hS.2.2 dL_asks_107
            · exact absurd c67 (by decide)
          · exact absurd c54 (by decide)
        · exact absurd c40 (by decide)
      · exact absurd c27 (by decide)
    · exact absurd c14 (by decide)
  · exact absurd c1 (by decide)
abbrev PL_asks_6_no (G : va_G) (T : Nat → ClassId) (na mo nm rs : Nat) (D mny : Nat → Int32) (nA rA : Nat → Nat) (j x2 x3 : Nat) (N f g : Nat → Int32) (i y2 y3 y4 y5 : Nat) (rk rf rg rh : Nat → Int32) (p0 p1 : Int32) (sz : Nat) : Array Value → State → Prop := gPc G T [.ref na, .int 6, .int p0, .int p1] ((cA T na mo nm rs D mny nA rA) ++ (cN T (nA j) x2 x3 N f g) ++ (cR T (rA i) y2 y3 y4 y5 rk rf rg rh)) sz
abbrev QL_asks_6_no (G : va_G) (T : Nat → ClassId) (na mo nm rs : Nat) (D mny : Nat → Int32) (nA rA : Nat → Nat) (j x2 x3 : Nat) (N f g : Nat → Int32) (i y2 y3 y4 y5 : Nat) (rk rf rg rh : Nat → Int32) (p0 p1 : Int32) (sz : Nat) : Array Value → State → Outcome → State → Prop := va_Qi (fun (r : Int32) (_ : Unit) => r = wD (kRN p0 p1)) (gB G ((cA T na mo nm rs D mny nA rA) ++ (cN T (nA j) x2 x3 N f g) ++ (cR T (rA i) y2 y3 y4 y5 rk rf rg rh))) (va_A ((cA T na mo nm rs D mny nA rA) ++ (cN T (nA j) x2 x3 N f g) ++ (cR T (rA i) y2 y3 y4 y5 rk rf rg rh)) sz)
set_option maxHeartbeats 4000000 in
set_option maxRecDepth 100000 in
theorem kL_asks_6_no (l : Launch) (hl0 : l.stackTraces = false) (G : va_G) (T : Nat → ClassId) (na mo nm rs : Nat) (D mny : Nat → Int32) (nA rA : Nat → Nat) (j x2 x3 : Nat) (N f g : Nat → Int32) (i y2 y3 y4 y5 : Nat) (rk rf rg rh : Nat → Int32) (p0 p1 : Int32) (sz : Nat) (hr9 : okI p0 3 = true → p0 = nI i ∧ i < 3) (hj : okI p1 16 = true → p1 = nI j ∧ j < 16) (hk : ¬ (kRN p0 p1) = 0) : Met l yL_asks wsL_asks ({ frames := 8, cells := 2, slots := 12, locals := 125 } : Room) (PL_asks_6_no G T na mo nm rs D mny nA rA j x2 x3 N f g i y2 y3 y4 y5 rk rf rg rh p0 p1 sz) (QL_asks_6_no G T na mo nm rs D mny nA rA j x2 x3 N f g i y2 y3 y4 y5 rk rf rg rh p0 p1 sz) 2 12 (va_A ((cA T na mo nm rs D mny nA rA) ++ (cN T (nA j) x2 x3 N f g) ++ (cR T (rA i) y2 y3 y4 y5 rk rf rg rh)) sz) := by
  refine va_MetW (cc := cL_asks) (maxL := 5) (ret := (some .int)) (hh := [(0, 107, 108, 41)]) (by decide) rfl ?_
  intro p e s m args below meth c s₁ B hml hv
  obtain ⟨rfl, hsz, hP, hK, hD0, hE⟩ := hv
  have hx := B.exec
  have hb := B.bytes
  have hr := B.returns
  have hts := atoms_spec (ws := wsL_asks) B.pre
  have hown : s.vm.findClass RL = some m.cls := findClass_of_methodNamed B.named
  have hlocks := B.notSynchronized
  have htab : c.exceptionTable.toList = tableOf [(0, 107, 108, 41)] := vx_table (x := yL_asks) B (hts _ List.mem_cons_self)
  subst hsz
  have hD := hD0.self (sz := s.heap.size)
  have hA : ∀ q : Nat, s.heap.size ≤ q → (va_A ((cA T na mo nm rs D mny nA rA) ++ (cN T (nA j) x2 x3 N f g) ++ (cR T (rA i) y2 y3 y4 y5 rk rf rg rh)) s.heap.size) q := fun q h => Or.inr h
  have hS : va_S (va_A ((cA T na mo nm rs D mny nA rA) ++ (cN T (nA j) x2 x3 N f g) ++ (cR T (rA i) y2 y3 y4 y5 rk rf rg rh)) s.heap.size) s.heap s.heap [] := va_S.rf
  have hl := lv_entry ([.ref na, .int 6, .int p0, .int p1]) (n := 5) (Nat.le_of_ble_eq_true rfl)
  rw [lg_entry_eq]
  generalize (lg_sl ([.ref na, .int 6, .int p0, .int p1]) ++ List.replicate (5 - (lg_sl ([.ref na, .int 6, .int p0, .int p1])).length) Slot.unset).toArray = ls at hl ⊢
  have hl : lv_has ls 5 [(0, .ref na), (1, .int 6), (2, .int p0), (3, .int p1)] := hl
  have hP : va_P G vwCl ((cA T na mo nm rs D mny nA rA) ++ (cN T (nA j) x2 x3 N f g) ++ (cR T (rA i) y2 y3 y4 y5 rk rf rg rh)) s.heap := hP
  refine lv_iload_n hx hb dL_asks_0 rfl (lv_at hl 1 rfl) ?_
  refine lv_if_ne (tgt := 12) hx hb dL_asks_1 (by decide) (fun c1 => ?_) (fun c1 => ?_)
  · skip
    refine lv_iload_n hx hb dL_asks_12 rfl (lv_at hl 1 rfl) ?_
    refine lv_iconst (v := 1) hx hb dL_asks_13 (by decide) ?_
    refine lv_icmp_ne (tgt := 25) hx hb dL_asks_14 (by decide) (fun c14 => ?_) (fun c14 => ?_)
    · skip
      refine lv_iload_n hx hb dL_asks_25 rfl (lv_at hl 1 rfl) ?_
      refine lv_iconst (v := 2) hx hb dL_asks_26 (by decide) ?_
      refine lv_icmp_ne (tgt := 38) hx hb dL_asks_27 (by decide) (fun c27 => ?_) (fun c27 => ?_)
      · skip
        refine lv_iload_n hx hb dL_asks_38 rfl (lv_at hl 1 rfl) ?_
        refine lv_iconst (v := 3) hx hb dL_asks_39 (by decide) ?_
        refine lv_icmp_ne (tgt := 52) hx hb dL_asks_40 (by decide) (fun c40 => ?_) (fun c40 => ?_)
        · skip
          refine lv_iload_n hx hb dL_asks_52 rfl (lv_at hl 1 rfl) ?_
          refine lv_iconst (v := 4) hx hb dL_asks_53 (by decide) ?_
          refine lv_icmp_ne (tgt := 65) hx hb dL_asks_54 (by decide) (fun c54 => ?_) (fun c54 => ?_)
          · skip
            refine lv_iload_n hx hb dL_asks_65 rfl (lv_at hl 1 rfl) ?_
            refine lv_iconst (v := 5) hx hb dL_asks_66 (by decide) ?_
            refine lv_icmp_ne (tgt := 78) hx hb dL_asks_67 (by decide) (fun c67 => ?_) (fun c67 => ?_)
            · skip
              refine lv_iload_n hx hb dL_asks_78 rfl (lv_at hl 1 rfl) ?_
              refine lv_bipush (v := 6) hx hb dL_asks_79 (by decide) ?_
              refine lv_icmp_ne (tgt := 93) hx hb dL_asks_81 (by decide) (fun c81 => ?_) (fun c81 => ?_)
              · exact absurd c81 (by decide)
              · skip
                refine lv_aload_n hx hb dL_asks_84 rfl (lv_at hl 0 rfl) ?_
                refine lv_iload_n hx hb dL_asks_85 rfl (lv_at hl 2 rfl) ?_
                refine lv_iload_n hx hb dL_asks_86 rfl (lv_at hl 3 rfl) ?_
                refine gxi (vx_runV (As := [.int p0, .int p1]) (rest := []) ⟨hx, hb, hml, hown, hts⟩ (kX2_lookUp l hl0 G T na mo nm rs D mny nA rA j x2 x3 N f g i y2 y3 y4 y5 rk rf rg rh p0 p1 _ hr9 hj) (cwV 2 hts gL_asks_X2_lookUp rfl rfl rfl (by decide +kernel) ⟨Nat.le_of_ble_eq_true rfl, Nat.le_of_ble_eq_true rfl⟩) ⟨gblind, va_recv hK hP (ci := 2) (q0 := 0) rfl rfl, gpre hE hK hP hD hS hA [0, 1, 2, 3, 4, 5, 6, 7, 8, 9, 10, 11] rfl rfl⟩ rfl rfl hl.1 rfl (lv_room (Nat.le_of_ble_eq_true rfl)) dL_asks_87 ⟨Nat.le_of_ble_eq_true rfl, Nat.le_of_ble_eq_true rfl⟩) hP hD hS hA [0, 1, 2, 3, 4, 5, 6, 7, 8, 9, 10, 11] rfl rfl (fun E9 ce9 q9 H locs he hP hD hS hce hcv hcl => ?_) (fun r9 H locs hw hP hD hS => ?_)
                · skip
                  have hP : va_P G vwCl ((cA T na mo nm rs D mny nA rA) ++ (cN T (nA j) x2 x3 N f g) ++ (cR T (rA i) y2 y3 y4 y5 rk rf rg rh)) H := hP
                  have hD : va_D (va_A ((cA T na mo nm rs D mny nA rA) ++ (cN T (nA j) x2 x3 N f g) ++ (cR T (rA i) y2 y3 y4 y5 rk rf rg rh)) s.heap.size) ((cA T na mo nm rs D mny nA rA) ++ (cN T (nA j) x2 x3 N f g) ++ (cR T (rA i) y2 y3 y4 y5 rk rf rg rh)) := hD
                  rcases he with ⟨hk9, rfl⟩ | ⟨hk9, rfl⟩ | ⟨hk9, rfl⟩
                  · skip
                    refine vx_catch (own := RL) (name := "java/lang/IndexOutOfBoundsException") hown [] ⟨0, 107, 108, 41⟩ [] (htab.trans rfl) (fun z hz => nomatch hz) rfl (by decide) (hts (.classLink RL 41 "java/lang/IndexOutOfBoundsException") (by decide +kernel)) (va_Nw.use rfl (hE.1 (.castable "java/lang/IndexOutOfBoundsException" "java/lang/IndexOutOfBoundsException") (by decide +kernel))) hce hcv hcl ?_
                    refine lv_astore (lv' := [(4, .ref q9), (0, .ref na), (1, .int 6), (2, .int p0), (3, .int p1)]) hx hb dL_asks_108 hl (by decide) rfl (fun ls hl => ?_)
                    refine lv_bipush (v := (-30)) hx hb dL_asks_110 (by decide) ?_
                    exact W.iret (v := (-30)) hx hb hr (fun t ht9 hW => ⟨⟨(-30), (), rfl, by rw [hk9]; rfl, gBi ht9 (gfin hP (rfl))⟩, hS.F ht9⟩) hS.2.2 dL_asks_112
                  · skip
                    exact absurd hk9 (by simp only [kRN]; repeat (first | split | decide))
                  · skip
                    exact absurd hk9 (by simp only [kRN]; repeat (first | split | decide))
                · skip
                  have hP : va_P G vwCl ((cA T na mo nm rs D mny nA rA) ++ (cN T (nA j) x2 x3 N f g) ++ (cR T (rA i) y2 y3 y4 y5 (sLook (sFresh rk rg rh j (D 3)) rk j 1) (sLook (sFresh rk rg rh j (D 3)) rf j (sAns N)) (sLook (sFresh rk rg rh j (D 3)) rg j (sLife N)) (sLook (sFresh rk rg rh j (D 3)) rh j (D 3)))) H := hP
                  have hD : va_D (va_A ((cA T na mo nm rs D mny nA rA) ++ (cN T (nA j) x2 x3 N f g) ++ (cR T (rA i) y2 y3 y4 y5 rk rf rg rh)) s.heap.size) ((cA T na mo nm rs D mny nA rA) ++ (cN T (nA j) x2 x3 N f g) ++ (cR T (rA i) y2 y3 y4 y5 (sLook (sFresh rk rg rh j (D 3)) rk j 1) (sLook (sFresh rk rg rh j (D 3)) rf j (sAns N)) (sLook (sFresh rk rg rh j (D 3)) rg j (sLife N)) (sLook (sFresh rk rg rh j (D 3)) rh j (D 3)))) := hD
                  exact absurd hw.1 hk
            · exact absurd c67 (by decide)
          · exact absurd c54 (by decide)
        · exact absurd c40 (by decide)
      · exact absurd c27 (by decide)
    · exact absurd c14 (by decide)
  · exact absurd c1 (by decide)
abbrev PL_asks_7_ok (G : va_G) (T : Nat → ClassId) (na mo nm rs : Nat) (D mny : Nat → Int32) (nA rA : Nat → Nat) (j x2 x3 : Nat) (N f g : Nat → Int32) (i y2 y3 y4 y5 : Nat) (rk rf rg rh : Nat → Int32) (p0 p1 : Int32) (sz : Nat) : Array Value → State → Prop := gPc G T [.ref na, .int 7, .int p0, .int p1] ((cA T na mo nm rs D mny nA rA) ++ (cN T (nA j) x2 x3 N f g) ++ (cR T (rA i) y2 y3 y4 y5 rk rf rg rh)) sz
abbrev QL_asks_7_ok (G : va_G) (T : Nat → ClassId) (na mo nm rs : Nat) (D mny : Nat → Int32) (nA rA : Nat → Nat) (j x2 x3 : Nat) (N f g : Nat → Int32) (i y2 y3 y4 y5 : Nat) (rk rf rg rh : Nat → Int32) (p0 p1 : Int32) (sz : Nat) : Array Value → State → Outcome → State → Prop := va_Qi (fun (r : Int32) (_ : Unit) => r = (if sStale (sFresh rk rg rh j (D 3)) (rf j) (sAns N) = 0 then 0 else 1)) (gB G ((cA T na mo nm rs D mny nA rA) ++ (cN T (nA j) x2 x3 N f g) ++ (cR T (rA i) y2 y3 y4 y5 rk rf rg rh))) (va_A ((cA T na mo nm rs D mny nA rA) ++ (cN T (nA j) x2 x3 N f g) ++ (cR T (rA i) y2 y3 y4 y5 rk rf rg rh)) sz)
set_option maxHeartbeats 4000000 in
set_option maxRecDepth 100000 in
theorem kL_asks_7_ok (l : Launch) (hl0 : l.stackTraces = false) (G : va_G) (T : Nat → ClassId) (na mo nm rs : Nat) (D mny : Nat → Int32) (nA rA : Nat → Nat) (j x2 x3 : Nat) (N f g : Nat → Int32) (i y2 y3 y4 y5 : Nat) (rk rf rg rh : Nat → Int32) (p0 p1 : Int32) (sz : Nat) (hr9 : okI p0 3 = true → p0 = nI i ∧ i < 3) (hj : okI p1 16 = true → p1 = nI j ∧ j < 16) (hk : (kRN p0 p1) = 0) : Met l yL_asks wsL_asks ({ frames := 8, cells := 2, slots := 12, locals := 125 } : Room) (PL_asks_7_ok G T na mo nm rs D mny nA rA j x2 x3 N f g i y2 y3 y4 y5 rk rf rg rh p0 p1 sz) (QL_asks_7_ok G T na mo nm rs D mny nA rA j x2 x3 N f g i y2 y3 y4 y5 rk rf rg rh p0 p1 sz) 2 12 (va_A ((cA T na mo nm rs D mny nA rA) ++ (cN T (nA j) x2 x3 N f g) ++ (cR T (rA i) y2 y3 y4 y5 rk rf rg rh)) sz) := by
  refine va_MetW (cc := cL_asks) (maxL := 5) (ret := (some .int)) (hh := [(0, 107, 108, 41)]) (by decide) rfl ?_
  intro p e s m args below meth c s₁ B hml hv
  obtain ⟨rfl, hsz, hP, hK, hD0, hE⟩ := hv
  have hx := B.exec
  have hb := B.bytes
  have hr := B.returns
  have hts := atoms_spec (ws := wsL_asks) B.pre
  have hown : s.vm.findClass RL = some m.cls := findClass_of_methodNamed B.named
  have hlocks := B.notSynchronized
  have htab : c.exceptionTable.toList = tableOf [(0, 107, 108, 41)] := vx_table (x := yL_asks) B (hts _ List.mem_cons_self)
  subst hsz
  have hD := hD0.self (sz := s.heap.size)
  have hA : ∀ q : Nat, s.heap.size ≤ q → (va_A ((cA T na mo nm rs D mny nA rA) ++ (cN T (nA j) x2 x3 N f g) ++ (cR T (rA i) y2 y3 y4 y5 rk rf rg rh)) s.heap.size) q := fun q h => Or.inr h
  have hS : va_S (va_A ((cA T na mo nm rs D mny nA rA) ++ (cN T (nA j) x2 x3 N f g) ++ (cR T (rA i) y2 y3 y4 y5 rk rf rg rh)) s.heap.size) s.heap s.heap [] := va_S.rf
  have hl := lv_entry ([.ref na, .int 7, .int p0, .int p1]) (n := 5) (Nat.le_of_ble_eq_true rfl)
  rw [lg_entry_eq]
  generalize (lg_sl ([.ref na, .int 7, .int p0, .int p1]) ++ List.replicate (5 - (lg_sl ([.ref na, .int 7, .int p0, .int p1])).length) Slot.unset).toArray = ls at hl ⊢
  have hl : lv_has ls 5 [(0, .ref na), (1, .int 7), (2, .int p0), (3, .int p1)] := hl
  have hP : va_P G vwCl ((cA T na mo nm rs D mny nA rA) ++ (cN T (nA j) x2 x3 N f g) ++ (cR T (rA i) y2 y3 y4 y5 rk rf rg rh)) s.heap := hP
  refine lv_iload_n hx hb dL_asks_0 rfl (lv_at hl 1 rfl) ?_
  refine lv_if_ne (tgt := 12) hx hb dL_asks_1 (by decide) (fun c1 => ?_) (fun c1 => ?_)
  · skip
    refine lv_iload_n hx hb dL_asks_12 rfl (lv_at hl 1 rfl) ?_
    refine lv_iconst (v := 1) hx hb dL_asks_13 (by decide) ?_
    refine lv_icmp_ne (tgt := 25) hx hb dL_asks_14 (by decide) (fun c14 => ?_) (fun c14 => ?_)
    · skip
      refine lv_iload_n hx hb dL_asks_25 rfl (lv_at hl 1 rfl) ?_
      refine lv_iconst (v := 2) hx hb dL_asks_26 (by decide) ?_
      refine lv_icmp_ne (tgt := 38) hx hb dL_asks_27 (by decide) (fun c27 => ?_) (fun c27 => ?_)
      · skip
        refine lv_iload_n hx hb dL_asks_38 rfl (lv_at hl 1 rfl) ?_
        refine lv_iconst (v := 3) hx hb dL_asks_39 (by decide) ?_
        refine lv_icmp_ne (tgt := 52) hx hb dL_asks_40 (by decide) (fun c40 => ?_) (fun c40 => ?_)
        · skip
          refine lv_iload_n hx hb dL_asks_52 rfl (lv_at hl 1 rfl) ?_
          refine lv_iconst (v := 4) hx hb dL_asks_53 (by decide) ?_
          refine lv_icmp_ne (tgt := 65) hx hb dL_asks_54 (by decide) (fun c54 => ?_) (fun c54 => ?_)
          · skip
            refine lv_iload_n hx hb dL_asks_65 rfl (lv_at hl 1 rfl) ?_
            refine lv_iconst (v := 5) hx hb dL_asks_66 (by decide) ?_
            refine lv_icmp_ne (tgt := 78) hx hb dL_asks_67 (by decide) (fun c67 => ?_) (fun c67 => ?_)
            · skip
              refine lv_iload_n hx hb dL_asks_78 rfl (lv_at hl 1 rfl) ?_
              refine lv_bipush (v := 6) hx hb dL_asks_79 (by decide) ?_
              refine lv_icmp_ne (tgt := 93) hx hb dL_asks_81 (by decide) (fun c81 => ?_) (fun c81 => ?_)
              · skip
                refine lv_aload_n hx hb dL_asks_93 rfl (lv_at hl 0 rfl) ?_
                refine lv_iload_n hx hb dL_asks_94 rfl (lv_at hl 2 rfl) ?_
                refine lv_iload_n hx hb dL_asks_95 rfl (lv_at hl 3 rfl) ?_
                refine gxi (vx_runV (As := [.int p0, .int p1]) (rest := []) ⟨hx, hb, hml, hown, hts⟩ (kX2_isStale l hl0 G T na mo nm rs D mny nA rA j x2 x3 N f g i y2 y3 y4 y5 rk rf rg rh p0 p1 _ hr9 hj) (cwV 2 hts gL_asks_X2_isStale rfl rfl rfl (by decide +kernel) ⟨Nat.le_of_ble_eq_true rfl, Nat.le_of_ble_eq_true rfl⟩) ⟨gblind, va_recv hK hP (ci := 2) (q0 := 0) rfl rfl, gpre hE hK hP hD hS hA [0, 1, 2, 3, 4, 5, 6, 7, 8, 9, 10, 11] rfl rfl⟩ rfl rfl hl.1 rfl (lv_room (Nat.le_of_ble_eq_true rfl)) dL_asks_96 ⟨Nat.le_of_ble_eq_true rfl, Nat.le_of_ble_eq_true rfl⟩) hP hD hS hA [0, 1, 2, 3, 4, 5, 6, 7, 8, 9, 10, 11] rfl rfl (fun E9 ce9 q9 H locs he hP hD hS hce hcv hcl => ?_) (fun r9 H locs hw hP hD hS => ?_)
                · skip
                  have hP : va_P G vwCl ((cA T na mo nm rs D mny nA rA) ++ (cN T (nA j) x2 x3 N f g) ++ (cR T (rA i) y2 y3 y4 y5 rk rf rg rh)) H := hP
                  have hD : va_D (va_A ((cA T na mo nm rs D mny nA rA) ++ (cN T (nA j) x2 x3 N f g) ++ (cR T (rA i) y2 y3 y4 y5 rk rf rg rh)) s.heap.size) ((cA T na mo nm rs D mny nA rA) ++ (cN T (nA j) x2 x3 N f g) ++ (cR T (rA i) y2 y3 y4 y5 rk rf rg rh)) := hD
                  rcases he with ⟨hk9, rfl⟩ | ⟨hk9, rfl⟩ | ⟨hk9, rfl⟩
                  · skip
                    exact absurd (hk.symm.trans hk9) (by decide)
                  · skip
                    exact absurd (hk.symm.trans hk9) (by decide)
                  · skip
                    exact absurd (hk.symm.trans hk9) (by decide)
                · skip
                  have hP : va_P G vwCl ((cA T na mo nm rs D mny nA rA) ++ (cN T (nA j) x2 x3 N f g) ++ (cR T (rA i) y2 y3 y4 y5 rk rf rg rh)) H := hP
                  have hD : va_D (va_A ((cA T na mo nm rs D mny nA rA) ++ (cN T (nA j) x2 x3 N f g) ++ (cR T (rA i) y2 y3 y4 y5 rk rf rg rh)) s.heap.size) ((cA T na mo nm rs D mny nA rA) ++ (cN T (nA j) x2 x3 N f g) ++ (cR T (rA i) y2 y3 y4 y5 rk rf rg rh)) := hD
                  obtain ⟨hok96, hw⟩ := hw
                  subst hw
                  refine lv_if_eq (tgt := 106) hx hb dL_asks_99 (by decide) (fun c99 => ?_) (fun c99 => ?_)
                  · skip
                    refine lv_iconst (v := 0) hx hb dL_asks_106 (by decide) ?_
                    exact W.iret (v := 0) hx hb hr (fun t ht9 hW => ⟨⟨0, (), rfl, by simp [c1, c14, c27, c40, c54, c67, c81, c99, hok96], gBi ht9 (gfin hP (rfl))⟩, hS.F ht9⟩) hS.2.2 dL_asks_107
                  · skip
                    refine lv_iconst (v := 1) hx hb dL_asks_102 (by decide) ?_
                    refine lv_goto (tgt := 107) hx hb dL_asks_103 (by decide) ?_
                    exact W.iret (v := 1) hx hb hr (fun t ht9 hW => ⟨⟨1, (), rfl, by simp [c1, c14, c27, c40, c54, c67, c81, c99, hok96], gBi ht9 (gfin hP (rfl))⟩, hS.F ht9⟩) hS.2.2 dL_asks_107
              · exact absurd c81 (by decide)
            · exact absurd c67 (by decide)
          · exact absurd c54 (by decide)
        · exact absurd c40 (by decide)
      · exact absurd c27 (by decide)
    · exact absurd c14 (by decide)
  · exact absurd c1 (by decide)
abbrev PL_asks_7_no (G : va_G) (T : Nat → ClassId) (na mo nm rs : Nat) (D mny : Nat → Int32) (nA rA : Nat → Nat) (j x2 x3 : Nat) (N f g : Nat → Int32) (i y2 y3 y4 y5 : Nat) (rk rf rg rh : Nat → Int32) (p0 p1 : Int32) (sz : Nat) : Array Value → State → Prop := gPc G T [.ref na, .int 7, .int p0, .int p1] ((cA T na mo nm rs D mny nA rA) ++ (cN T (nA j) x2 x3 N f g) ++ (cR T (rA i) y2 y3 y4 y5 rk rf rg rh)) sz
abbrev QL_asks_7_no (G : va_G) (T : Nat → ClassId) (na mo nm rs : Nat) (D mny : Nat → Int32) (nA rA : Nat → Nat) (j x2 x3 : Nat) (N f g : Nat → Int32) (i y2 y3 y4 y5 : Nat) (rk rf rg rh : Nat → Int32) (p0 p1 : Int32) (sz : Nat) : Array Value → State → Outcome → State → Prop := va_Qi (fun (r : Int32) (_ : Unit) => r = wD (kRN p0 p1)) (gB G ((cA T na mo nm rs D mny nA rA) ++ (cN T (nA j) x2 x3 N f g) ++ (cR T (rA i) y2 y3 y4 y5 rk rf rg rh))) (va_A ((cA T na mo nm rs D mny nA rA) ++ (cN T (nA j) x2 x3 N f g) ++ (cR T (rA i) y2 y3 y4 y5 rk rf rg rh)) sz)
set_option maxHeartbeats 4000000 in
set_option maxRecDepth 100000 in
theorem kL_asks_7_no (l : Launch) (hl0 : l.stackTraces = false) (G : va_G) (T : Nat → ClassId) (na mo nm rs : Nat) (D mny : Nat → Int32) (nA rA : Nat → Nat) (j x2 x3 : Nat) (N f g : Nat → Int32) (i y2 y3 y4 y5 : Nat) (rk rf rg rh : Nat → Int32) (p0 p1 : Int32) (sz : Nat) (hr9 : okI p0 3 = true → p0 = nI i ∧ i < 3) (hj : okI p1 16 = true → p1 = nI j ∧ j < 16) (hk : ¬ (kRN p0 p1) = 0) : Met l yL_asks wsL_asks ({ frames := 8, cells := 2, slots := 12, locals := 125 } : Room) (PL_asks_7_no G T na mo nm rs D mny nA rA j x2 x3 N f g i y2 y3 y4 y5 rk rf rg rh p0 p1 sz) (QL_asks_7_no G T na mo nm rs D mny nA rA j x2 x3 N f g i y2 y3 y4 y5 rk rf rg rh p0 p1 sz) 2 12 (va_A ((cA T na mo nm rs D mny nA rA) ++ (cN T (nA j) x2 x3 N f g) ++ (cR T (rA i) y2 y3 y4 y5 rk rf rg rh)) sz) := by
  refine va_MetW (cc := cL_asks) (maxL := 5) (ret := (some .int)) (hh := [(0, 107, 108, 41)]) (by decide) rfl ?_
  intro p e s m args below meth c s₁ B hml hv
  obtain ⟨rfl, hsz, hP, hK, hD0, hE⟩ := hv
  have hx := B.exec
  have hb := B.bytes
  have hr := B.returns
  have hts := atoms_spec (ws := wsL_asks) B.pre
  have hown : s.vm.findClass RL = some m.cls := findClass_of_methodNamed B.named
  have hlocks := B.notSynchronized
  have htab : c.exceptionTable.toList = tableOf [(0, 107, 108, 41)] := vx_table (x := yL_asks) B (hts _ List.mem_cons_self)
  subst hsz
  have hD := hD0.self (sz := s.heap.size)
  have hA : ∀ q : Nat, s.heap.size ≤ q → (va_A ((cA T na mo nm rs D mny nA rA) ++ (cN T (nA j) x2 x3 N f g) ++ (cR T (rA i) y2 y3 y4 y5 rk rf rg rh)) s.heap.size) q := fun q h => Or.inr h
  have hS : va_S (va_A ((cA T na mo nm rs D mny nA rA) ++ (cN T (nA j) x2 x3 N f g) ++ (cR T (rA i) y2 y3 y4 y5 rk rf rg rh)) s.heap.size) s.heap s.heap [] := va_S.rf
  have hl := lv_entry ([.ref na, .int 7, .int p0, .int p1]) (n := 5) (Nat.le_of_ble_eq_true rfl)
  rw [lg_entry_eq]
  generalize (lg_sl ([.ref na, .int 7, .int p0, .int p1]) ++ List.replicate (5 - (lg_sl ([.ref na, .int 7, .int p0, .int p1])).length) Slot.unset).toArray = ls at hl ⊢
  have hl : lv_has ls 5 [(0, .ref na), (1, .int 7), (2, .int p0), (3, .int p1)] := hl
  have hP : va_P G vwCl ((cA T na mo nm rs D mny nA rA) ++ (cN T (nA j) x2 x3 N f g) ++ (cR T (rA i) y2 y3 y4 y5 rk rf rg rh)) s.heap := hP
  refine lv_iload_n hx hb dL_asks_0 rfl (lv_at hl 1 rfl) ?_
  refine lv_if_ne (tgt := 12) hx hb dL_asks_1 (by decide) (fun c1 => ?_) (fun c1 => ?_)
  · skip
    refine lv_iload_n hx hb dL_asks_12 rfl (lv_at hl 1 rfl) ?_
    refine lv_iconst (v := 1) hx hb dL_asks_13 (by decide) ?_
    refine lv_icmp_ne (tgt := 25) hx hb dL_asks_14 (by decide) (fun c14 => ?_) (fun c14 => ?_)
    · skip
      refine lv_iload_n hx hb dL_asks_25 rfl (lv_at hl 1 rfl) ?_
      refine lv_iconst (v := 2) hx hb dL_asks_26 (by decide) ?_
      refine lv_icmp_ne (tgt := 38) hx hb dL_asks_27 (by decide) (fun c27 => ?_) (fun c27 => ?_)
      · skip
        refine lv_iload_n hx hb dL_asks_38 rfl (lv_at hl 1 rfl) ?_
        refine lv_iconst (v := 3) hx hb dL_asks_39 (by decide) ?_
        refine lv_icmp_ne (tgt := 52) hx hb dL_asks_40 (by decide) (fun c40 => ?_) (fun c40 => ?_)
        · skip
          refine lv_iload_n hx hb dL_asks_52 rfl (lv_at hl 1 rfl) ?_
          refine lv_iconst (v := 4) hx hb dL_asks_53 (by decide) ?_
          refine lv_icmp_ne (tgt := 65) hx hb dL_asks_54 (by decide) (fun c54 => ?_) (fun c54 => ?_)
          · skip
            refine lv_iload_n hx hb dL_asks_65 rfl (lv_at hl 1 rfl) ?_
            refine lv_iconst (v := 5) hx hb dL_asks_66 (by decide) ?_
            refine lv_icmp_ne (tgt := 78) hx hb dL_asks_67 (by decide) (fun c67 => ?_) (fun c67 => ?_)
            · skip
              refine lv_iload_n hx hb dL_asks_78 rfl (lv_at hl 1 rfl) ?_
              refine lv_bipush (v := 6) hx hb dL_asks_79 (by decide) ?_
              refine lv_icmp_ne (tgt := 93) hx hb dL_asks_81 (by decide) (fun c81 => ?_) (fun c81 => ?_)
              · skip
                refine lv_aload_n hx hb dL_asks_93 rfl (lv_at hl 0 rfl) ?_
                refine lv_iload_n hx hb dL_asks_94 rfl (lv_at hl 2 rfl) ?_
                refine lv_iload_n hx hb dL_asks_95 rfl (lv_at hl 3 rfl) ?_
                refine gxi (vx_runV (As := [.int p0, .int p1]) (rest := []) ⟨hx, hb, hml, hown, hts⟩ (kX2_isStale l hl0 G T na mo nm rs D mny nA rA j x2 x3 N f g i y2 y3 y4 y5 rk rf rg rh p0 p1 _ hr9 hj) (cwV 2 hts gL_asks_X2_isStale rfl rfl rfl (by decide +kernel) ⟨Nat.le_of_ble_eq_true rfl, Nat.le_of_ble_eq_true rfl⟩) ⟨gblind, va_recv hK hP (ci := 2) (q0 := 0) rfl rfl, gpre hE hK hP hD hS hA [0, 1, 2, 3, 4, 5, 6, 7, 8, 9, 10, 11] rfl rfl⟩ rfl rfl hl.1 rfl (lv_room (Nat.le_of_ble_eq_true rfl)) dL_asks_96 ⟨Nat.le_of_ble_eq_true rfl, Nat.le_of_ble_eq_true rfl⟩) hP hD hS hA [0, 1, 2, 3, 4, 5, 6, 7, 8, 9, 10, 11] rfl rfl (fun E9 ce9 q9 H locs he hP hD hS hce hcv hcl => ?_) (fun r9 H locs hw hP hD hS => ?_)
                · skip
                  have hP : va_P G vwCl ((cA T na mo nm rs D mny nA rA) ++ (cN T (nA j) x2 x3 N f g) ++ (cR T (rA i) y2 y3 y4 y5 rk rf rg rh)) H := hP
                  have hD : va_D (va_A ((cA T na mo nm rs D mny nA rA) ++ (cN T (nA j) x2 x3 N f g) ++ (cR T (rA i) y2 y3 y4 y5 rk rf rg rh)) s.heap.size) ((cA T na mo nm rs D mny nA rA) ++ (cN T (nA j) x2 x3 N f g) ++ (cR T (rA i) y2 y3 y4 y5 rk rf rg rh)) := hD
                  rcases he with ⟨hk9, rfl⟩ | ⟨hk9, rfl⟩ | ⟨hk9, rfl⟩
                  · skip
                    refine vx_catch (own := RL) (name := "java/lang/IndexOutOfBoundsException") hown [] ⟨0, 107, 108, 41⟩ [] (htab.trans rfl) (fun z hz => nomatch hz) rfl (by decide) (hts (.classLink RL 41 "java/lang/IndexOutOfBoundsException") (by decide +kernel)) (va_Nw.use rfl (hE.1 (.castable "java/lang/IndexOutOfBoundsException" "java/lang/IndexOutOfBoundsException") (by decide +kernel))) hce hcv hcl ?_
                    refine lv_astore (lv' := [(4, .ref q9), (0, .ref na), (1, .int 7), (2, .int p0), (3, .int p1)]) hx hb dL_asks_108 hl (by decide) rfl (fun ls hl => ?_)
                    refine lv_bipush (v := (-30)) hx hb dL_asks_110 (by decide) ?_
                    exact W.iret (v := (-30)) hx hb hr (fun t ht9 hW => ⟨⟨(-30), (), rfl, by rw [hk9]; rfl, gBi ht9 (gfin hP (rfl))⟩, hS.F ht9⟩) hS.2.2 dL_asks_112
                  · skip
                    exact absurd hk9 (by simp only [kRN]; repeat (first | split | decide))
                  · skip
                    exact absurd hk9 (by simp only [kRN]; repeat (first | split | decide))
                · skip
                  have hP : va_P G vwCl ((cA T na mo nm rs D mny nA rA) ++ (cN T (nA j) x2 x3 N f g) ++ (cR T (rA i) y2 y3 y4 y5 rk rf rg rh)) H := hP
                  have hD : va_D (va_A ((cA T na mo nm rs D mny nA rA) ++ (cN T (nA j) x2 x3 N f g) ++ (cR T (rA i) y2 y3 y4 y5 rk rf rg rh)) s.heap.size) ((cA T na mo nm rs D mny nA rA) ++ (cN T (nA j) x2 x3 N f g) ++ (cR T (rA i) y2 y3 y4 y5 rk rf rg rh)) := hD
                  exact absurd hw.1 hk
              · exact absurd c81 (by decide)
            · exact absurd c67 (by decide)
          · exact absurd c54 (by decide)
        · exact absurd c40 (by decide)
      · exact absurd c27 (by decide)
    · exact absurd c14 (by decide)
  · exact absurd c1 (by decide)
/-! CALLS THAT ARE NOT REFUSED, and make nothing -/
theorem okI_nat9 {k n : Nat} (hk : k < 2 ^ 31) (hn : n < 2 ^ 31) (h : k < n) : okI (nI k) (nI n) = true := decide_eq_true ⟨nI_pos hk, nI_ge h hn⟩
abbrev PX2_checkIndex_z (G : va_G) (T : Nat → ClassId) (p0 p1 : Int32) (sz : Nat) : Array Value → State → Prop := gPc G T [.int p0, .int p1] ([] : va_W) sz
abbrev QX2_checkIndex_z (G : va_G) (T : Nat → ClassId) (p0 p1 : Int32) (sz : Nat) : Array Value → State → Outcome → State → Prop := va_Qv (fun _ : Unit => True) (gB G (([] : va_W))) (va_A ([] : va_W) sz)
set_option maxHeartbeats 4000000 in
set_option maxRecDepth 100000 in
theorem kX2_checkIndex_z (l : Launch) (G : va_G) (T : Nat → ClassId) (p0 p1 : Int32) (sz : Nat) (hok : okI p0 p1 = true) : Met l yX2_checkIndex wsX2_checkIndex ({ frames := 0, cells := 0, slots := 0, locals := 0 } : Room) (PX2_checkIndex_z G T p0 p1 sz) (QX2_checkIndex_z G T p0 p1 sz) 0 0 (va_A ([] : va_W) sz) := by
  refine Met.ofW (cc := cX2_checkIndex) (maxL := 2) (ret := none) (by decide) rfl ?_
  intro p e s m args below meth c s₁ B hml hv
  obtain ⟨rfl, hsz, hP, hK, hD0, hE⟩ := hv
  have hx := B.exec
  have hb := B.bytes
  have hr := B.returns
  have hts := atoms_spec (ws := wsX2_checkIndex) B.pre
  have hown : s.vm.findClass RX2 = some m.cls := findClass_of_methodNamed B.named
  have hlocks := B.notSynchronized
  subst hsz
  have hD := hD0.self (sz := s.heap.size)
  have hA : ∀ q : Nat, s.heap.size ≤ q → (va_A ([] : va_W) s.heap.size) q := fun q h => Or.inr h
  have hS : va_S (va_A ([] : va_W) s.heap.size) s.heap s.heap [] := va_S.rf
  have hl := lv_entry ([.int p0, .int p1]) (n := 2) (Nat.le_of_ble_eq_true rfl)
  rw [lg_entry_eq]
  generalize (lg_sl ([.int p0, .int p1]) ++ List.replicate (2 - (lg_sl ([.int p0, .int p1])).length) Slot.unset).toArray = ls at hl ⊢
  have hl : lv_has ls 2 [(0, .int p0), (1, .int p1)] := hl
  have hP : va_P G vwCl (([] : va_W)) s.heap := hP
  refine lv_iload_n hx hb dX2_checkIndex_0 rfl (lv_at hl 0 rfl) ?_
  refine lv_if_lt (tgt := 9) hx hb dX2_checkIndex_1 (by decide) (fun c1 => ?_) (fun c1 => ?_)
  · exact absurd c1 (okI_of hok).1
  · skip
    refine lv_iload_n hx hb dX2_checkIndex_4 rfl (lv_at hl 0 rfl) ?_
    refine lv_iload_n hx hb dX2_checkIndex_5 rfl (lv_at hl 1 rfl) ?_
    refine lv_icmp_lt (tgt := 17) hx hb dX2_checkIndex_6 (by decide) (fun c6 => ?_) (fun c6 => ?_)
    · skip
      exact W.vret hx hb hr (fun t ht9 hW => ⟨⟨(), rfl, trivial, gBi ht9 (gfin hP (rfl))⟩, hS.F ht9⟩) hS.2.2 dX2_checkIndex_17
    · exact absurd (Int32.not_le.mp (okI_of hok).2) c6
abbrev PX2_checkRange_z (G : va_G) (T : Nat → ClassId) (p0 p1 p2 : Int32) (sz : Nat) : Array Value → State → Prop := gPc G T [.int p0, .int p1, .int p2] ([] : va_W) sz
abbrev QX2_checkRange_z (G : va_G) (T : Nat → ClassId) (p0 p1 p2 : Int32) (sz : Nat) : Array Value → State → Outcome → State → Prop := va_Qv (fun _ : Unit => True) (gB G (([] : va_W))) (va_A ([] : va_W) sz)
set_option maxHeartbeats 4000000 in
set_option maxRecDepth 100000 in
theorem kX2_checkRange_z (l : Launch) (G : va_G) (T : Nat → ClassId) (p0 p1 p2 : Int32) (sz : Nat) (hok : okR p0 p1 p2 = true) : Met l yX2_checkRange wsX2_checkRange ({ frames := 0, cells := 0, slots := 0, locals := 0 } : Room) (PX2_checkRange_z G T p0 p1 p2 sz) (QX2_checkRange_z G T p0 p1 p2 sz) 0 0 (va_A ([] : va_W) sz) := by
  refine Met.ofW (cc := cX2_checkRange) (maxL := 3) (ret := none) (by decide) rfl ?_
  intro p e s m args below meth c s₁ B hml hv
  obtain ⟨rfl, hsz, hP, hK, hD0, hE⟩ := hv
  have hx := B.exec
  have hb := B.bytes
  have hr := B.returns
  have hts := atoms_spec (ws := wsX2_checkRange) B.pre
  have hown : s.vm.findClass RX2 = some m.cls := findClass_of_methodNamed B.named
  have hlocks := B.notSynchronized
  subst hsz
  have hD := hD0.self (sz := s.heap.size)
  have hA : ∀ q : Nat, s.heap.size ≤ q → (va_A ([] : va_W) s.heap.size) q := fun q h => Or.inr h
  have hS : va_S (va_A ([] : va_W) s.heap.size) s.heap s.heap [] := va_S.rf
  have hl := lv_entry ([.int p0, .int p1, .int p2]) (n := 3) (Nat.le_of_ble_eq_true rfl)
  rw [lg_entry_eq]
  generalize (lg_sl ([.int p0, .int p1, .int p2]) ++ List.replicate (3 - (lg_sl ([.int p0, .int p1, .int p2])).length) Slot.unset).toArray = ls at hl ⊢
  have hl : lv_has ls 3 [(0, .int p0), (1, .int p1), (2, .int p2)] := hl
  have hP : va_P G vwCl (([] : va_W)) s.heap := hP
  refine lv_iload_n hx hb dX2_checkRange_0 rfl (lv_at hl 0 rfl) ?_
  refine lv_iload_n hx hb dX2_checkRange_1 rfl (lv_at hl 1 rfl) ?_
  refine lv_icmp_lt (tgt := 10) hx hb dX2_checkRange_2 (by decide) (fun c2 => ?_) (fun c2 => ?_)
  · exact absurd c2 (okR_of hok).1
  · skip
    refine lv_iload_n hx hb dX2_checkRange_5 rfl (lv_at hl 0 rfl) ?_
    refine lv_iload_n hx hb dX2_checkRange_6 rfl (lv_at hl 2 rfl) ?_
    refine lv_icmp_le (tgt := 18) hx hb dX2_checkRange_7 (by decide) (fun c7 => ?_) (fun c7 => ?_)
    · skip
      exact W.vret hx hb hr (fun t ht9 hW => ⟨⟨(), rfl, trivial, gBi ht9 (gfin hP (rfl))⟩, hS.F ht9⟩) hS.2.2 dX2_checkRange_18
    · exact absurd (Int32.not_lt.mp (okR_of hok).2) c7
abbrev PX2_funds_z (G : va_G) (T : Nat → ClassId) (na mo nm rs : Nat) (D mny : Nat → Int32) (nA rA : Nat → Nat) (i : Nat) (sz : Nat) : Array Value → State → Prop := gPc G T [.ref na, .int (nI i)] (cA T na mo nm rs D mny nA rA) sz
abbrev QX2_funds_z (G : va_G) (T : Nat → ClassId) (na mo nm rs : Nat) (D mny : Nat → Int32) (nA rA : Nat → Nat) (i : Nat) (sz : Nat) : Array Value → State → Outcome → State → Prop := va_Qi (fun (r : Int32) (_ : Unit) => r = mny i) (gB G (cA T na mo nm rs D mny nA rA)) (va_A (cA T na mo nm rs D mny nA rA) sz)
set_option maxHeartbeats 4000000 in
set_option maxRecDepth 100000 in
theorem kX2_funds_z (l : Launch) (G : va_G) (T : Nat → ClassId) (na mo nm rs : Nat) (D mny : Nat → Int32) (nA rA : Nat → Nat) (i : Nat) (sz : Nat) (hi6 : i < 6) : Met l yX2_funds wsX2_funds ({ frames := 1, cells := 0, slots := 0, locals := 21 } : Room) (PX2_funds_z G T na mo nm rs D mny nA rA i sz) (QX2_funds_z G T na mo nm rs D mny nA rA i sz) 0 0 (va_A (cA T na mo nm rs D mny nA rA) sz) := by
  refine Met.ofW (cc := cX2_funds) (maxL := 2) (ret := (some .int)) (by decide) rfl ?_
  intro p e s m args below meth c s₁ B hml hv
  obtain ⟨rfl, hsz, hP, hK, hD0, hE⟩ := hv
  have hx := B.exec
  have hb := B.bytes
  have hr := B.returns
  have hts := atoms_spec (ws := wsX2_funds) B.pre
  have hown : s.vm.findClass RX2 = some m.cls := findClass_of_methodNamed B.named
  have hlocks := B.notSynchronized
  subst hsz
  have hD := hD0.self (sz := s.heap.size)
  have hA : ∀ q : Nat, s.heap.size ≤ q → (va_A (cA T na mo nm rs D mny nA rA) s.heap.size) q := fun q h => Or.inr h
  have hS : va_S (va_A (cA T na mo nm rs D mny nA rA) s.heap.size) s.heap s.heap [] := va_S.rf
  have hiRX2 : ∀ w ∈ u_ws RX2 TX2 6, w ∈ wsX2_funds := by decide +kernel
  have hl := lv_entry ([.ref na, .int (nI i)]) (n := 2) (Nat.le_of_ble_eq_true rfl)
  rw [lg_entry_eq]
  generalize (lg_sl ([.ref na, .int (nI i)]) ++ List.replicate (2 - (lg_sl ([.ref na, .int (nI i)])).length) Slot.unset).toArray = ls at hl ⊢
  have hl : lv_has ls 2 [(0, .ref na), (1, .int (nI i))] := hl
  have hP : va_P G vwCl (cA T na mo nm rs D mny nA rA) s.heap := hP
  refine lv_iload_n hx hb dX2_funds_0 rfl (lv_at hl 1 rfl) ?_
  refine lv_bipush (v := 6) hx hb dX2_funds_1 (by decide) ?_
  refine gcv (va_runS (As := [.int (nI i), .int 6]) (rest := []) ⟨hx, hb, hml, hown, hts⟩ (kX2_checkIndex_z l G T (nI i) 6 _ (okI_nat9 (n := 6) (by omega) (by omega) hi6)) (va_cwS 2 hts gX2_funds_X2_checkIndex rfl rfl rfl (by decide +kernel) ⟨Nat.le_of_ble_eq_true rfl, Nat.le_of_ble_eq_true rfl⟩) ⟨gblind, gpre hE hK hP hD hS hA [] rfl rfl⟩ rfl rfl hl.1 rfl (lv_room (Nat.le_of_ble_eq_true rfl)) dX2_funds_3 ⟨Nat.le_of_ble_eq_true rfl, Nat.le_of_ble_eq_true rfl⟩) hP hD hS hA [] rfl rfl (fun H locs hw hP hD hS => ?_)
  have hP : va_P G vwCl (cA T na mo nm rs D mny nA rA) H := hP
  have hD : va_D (va_A (cA T na mo nm rs D mny nA rA) s.heap.size) (cA T na mo nm rs D mny nA rA) := hD
  refine lv_aload_n hx hb dX2_funds_6 rfl (lv_at hl 0 rfl) ?_
  refine va_get (D := G) (ci := 2) (v := .ref mo) (C := RX2) (T := TX2) (N := 6) hx hb hts hiRX2 hown hK hP 0 rfl rfl 0 (by decide) (hts (.fieldLink RX2 9 "NameAuction" "money" "[I") (by decide +kernel)) (fun _ h9 => h9) rfl dX2_funds_7 ?_
  refine lv_iload_n hx hb dX2_funds_10 rfl (lv_at hl 1 rfl) ?_
  refine giald (j := i) hx hb hK hP 1 0 rfl rfl (show (nI i : Int32) = nI i from rfl) (by omega) (by decide) dX2_funds_11 ?_
  exact W.iret (v := mny i) hx hb hr (fun t ht9 hW => ⟨⟨mny i, (), rfl, rfl, gBi ht9 (gfin hP (rfl))⟩, hS.F ht9⟩) hS.2.2 dX2_funds_12
abbrev PX2_state_z (G : va_G) (T : Nat → ClassId) (na mo nm rs : Nat) (D mny : Nat → Int32) (nA rA : Nat → Nat) (j x2 x3 : Nat) (N f g : Nat → Int32) (sz : Nat) : Array Value → State → Prop := gPc G T [.ref na, .int (nI j)] ((cA T na mo nm rs D mny nA rA) ++ (cN T (nA j) x2 x3 N f g)) sz
abbrev QX2_state_z (G : va_G) (T : Nat → ClassId) (na mo nm rs : Nat) (D mny : Nat → Int32) (nA rA : Nat → Nat) (j x2 x3 : Nat) (N f g : Nat → Int32) (sz : Nat) : Array Value → State → Outcome → State → Prop := va_Qi (fun (r : Int32) (_ : Unit) => r = N 0) (gB G ((cA T na mo nm rs D mny nA rA) ++ (cN T (nA j) x2 x3 N f g))) (va_A ((cA T na mo nm rs D mny nA rA) ++ (cN T (nA j) x2 x3 N f g)) sz)
set_option maxHeartbeats 4000000 in
set_option maxRecDepth 100000 in
theorem kX2_state_z (l : Launch) (G : va_G) (T : Nat → ClassId) (na mo nm rs : Nat) (D mny : Nat → Int32) (nA rA : Nat → Nat) (j x2 x3 : Nat) (N f g : Nat → Int32) (sz : Nat) (hj16 : j < 16) : Met l yX2_state wsX2_state ({ frames := 1, cells := 0, slots := 0, locals := 21 } : Room) (PX2_state_z G T na mo nm rs D mny nA rA j x2 x3 N f g sz) (QX2_state_z G T na mo nm rs D mny nA rA j x2 x3 N f g sz) 0 0 (va_A ((cA T na mo nm rs D mny nA rA) ++ (cN T (nA j) x2 x3 N f g)) sz) := by
  refine Met.ofW (cc := cX2_state) (maxL := 2) (ret := (some .int)) (by decide) rfl ?_
  intro p e s m args below meth c s₁ B hml hv
  obtain ⟨rfl, hsz, hP, hK, hD0, hE⟩ := hv
  have hx := B.exec
  have hb := B.bytes
  have hr := B.returns
  have hts := atoms_spec (ws := wsX2_state) B.pre
  have hown : s.vm.findClass RX2 = some m.cls := findClass_of_methodNamed B.named
  have hlocks := B.notSynchronized
  subst hsz
  have hD := hD0.self (sz := s.heap.size)
  have hA : ∀ q : Nat, s.heap.size ≤ q → (va_A ((cA T na mo nm rs D mny nA rA) ++ (cN T (nA j) x2 x3 N f g)) s.heap.size) q := fun q h => Or.inr h
  have hS : va_S (va_A ((cA T na mo nm rs D mny nA rA) ++ (cN T (nA j) x2 x3 N f g)) s.heap.size) s.heap s.heap [] := va_S.rf
  have hiRX0 : ∀ w ∈ u_ws RX0 TX0 11, w ∈ wsX2_state := by decide +kernel
  have hiRX2 : ∀ w ∈ u_ws RX2 TX2 6, w ∈ wsX2_state := by decide +kernel
  have hl := lv_entry ([.ref na, .int (nI j)]) (n := 2) (Nat.le_of_ble_eq_true rfl)
  rw [lg_entry_eq]
  generalize (lg_sl ([.ref na, .int (nI j)]) ++ List.replicate (2 - (lg_sl ([.ref na, .int (nI j)])).length) Slot.unset).toArray = ls at hl ⊢
  have hl : lv_has ls 2 [(0, .ref na), (1, .int (nI j))] := hl
  have hP : va_P G vwCl ((cA T na mo nm rs D mny nA rA) ++ (cN T (nA j) x2 x3 N f g)) s.heap := hP
  refine lv_iload_n hx hb dX2_state_0 rfl (lv_at hl 1 rfl) ?_
  refine lv_bipush (v := 16) hx hb dX2_state_1 (by decide) ?_
  refine gcv (va_runS (As := [.int (nI j), .int 16]) (rest := []) ⟨hx, hb, hml, hown, hts⟩ (kX2_checkIndex_z l G T (nI j) 16 _ (okI_nat9 (n := 16) (by omega) (by omega) hj16)) (va_cwS 2 hts gX2_state_X2_checkIndex rfl rfl rfl (by decide +kernel) ⟨Nat.le_of_ble_eq_true rfl, Nat.le_of_ble_eq_true rfl⟩) ⟨gblind, gpre hE hK hP hD hS hA [] rfl rfl⟩ rfl rfl hl.1 rfl (lv_room (Nat.le_of_ble_eq_true rfl)) dX2_state_3 ⟨Nat.le_of_ble_eq_true rfl, Nat.le_of_ble_eq_true rfl⟩) hP hD hS hA [] rfl rfl (fun H locs hw hP hD hS => ?_)
  have hP : va_P G vwCl ((cA T na mo nm rs D mny nA rA) ++ (cN T (nA j) x2 x3 N f g)) H := hP
  have hD : va_D (va_A ((cA T na mo nm rs D mny nA rA) ++ (cN T (nA j) x2 x3 N f g)) s.heap.size) ((cA T na mo nm rs D mny nA rA) ++ (cN T (nA j) x2 x3 N f g)) := hD
  refine lv_aload_n hx hb dX2_state_6 rfl (lv_at hl 0 rfl) ?_
  refine va_get (D := G) (ci := 2) (v := .ref nm) (C := RX2) (T := TX2) (N := 6) hx hb hts hiRX2 hown hK hP 0 rfl rfl 1 (by decide) (hts (.fieldLink RX2 15 "NameAuction" "names" "[LNameAuction$Name;") (by decide +kernel)) (fun _ h9 => h9) rfl dX2_state_7 ?_
  refine lv_iload_n hx hb dX2_state_10 rfl (lv_at hl 1 rfl) ?_
  refine galdr (j := j) hx hb hK hP 2 2 rfl rfl (show (nI j : Int32) = nI j from rfl) (by omega) (by decide) dX2_state_11 ?_
  refine va_getN (D := G) (ci := 0) (v := .int (N 0)) (C := RX0) (T := TX0) (N := 11) hx hb hts hiRX0 hown hK hP 4 rfl rfl 0 (by decide) (va_Nw.use rfl (hE.1 (.fieldLinkNest RX2 36 "NameAuction$Name" "phase" "I" RX2) (by decide +kernel))) (fun _ h9 => h9) rfl dX2_state_12 ?_
  exact W.iret (v := N 0) hx hb hr (fun t ht9 hW => ⟨⟨N 0, (), rfl, rfl, gBi ht9 (gfin hP (rfl))⟩, hS.F ht9⟩) hS.2.2 dX2_state_15
abbrev PX2_owner_z (G : va_G) (T : Nat → ClassId) (na mo nm rs : Nat) (D mny : Nat → Int32) (nA rA : Nat → Nat) (j x2 x3 : Nat) (N f g : Nat → Int32) (sz : Nat) : Array Value → State → Prop := gPc G T [.ref na, .int (nI j)] ((cA T na mo nm rs D mny nA rA) ++ (cN T (nA j) x2 x3 N f g)) sz
abbrev QX2_owner_z (G : va_G) (T : Nat → ClassId) (na mo nm rs : Nat) (D mny : Nat → Int32) (nA rA : Nat → Nat) (j x2 x3 : Nat) (N f g : Nat → Int32) (sz : Nat) : Array Value → State → Outcome → State → Prop := va_Qi (fun (r : Int32) (_ : Unit) => r = N 1) (gB G ((cA T na mo nm rs D mny nA rA) ++ (cN T (nA j) x2 x3 N f g))) (va_A ((cA T na mo nm rs D mny nA rA) ++ (cN T (nA j) x2 x3 N f g)) sz)
set_option maxHeartbeats 4000000 in
set_option maxRecDepth 100000 in
theorem kX2_owner_z (l : Launch) (G : va_G) (T : Nat → ClassId) (na mo nm rs : Nat) (D mny : Nat → Int32) (nA rA : Nat → Nat) (j x2 x3 : Nat) (N f g : Nat → Int32) (sz : Nat) (hj16 : j < 16) : Met l yX2_owner wsX2_owner ({ frames := 1, cells := 0, slots := 0, locals := 21 } : Room) (PX2_owner_z G T na mo nm rs D mny nA rA j x2 x3 N f g sz) (QX2_owner_z G T na mo nm rs D mny nA rA j x2 x3 N f g sz) 0 0 (va_A ((cA T na mo nm rs D mny nA rA) ++ (cN T (nA j) x2 x3 N f g)) sz) := by
  refine Met.ofW (cc := cX2_owner) (maxL := 2) (ret := (some .int)) (by decide) rfl ?_
  intro p e s m args below meth c s₁ B hml hv
  obtain ⟨rfl, hsz, hP, hK, hD0, hE⟩ := hv
  have hx := B.exec
  have hb := B.bytes
  have hr := B.returns
  have hts := atoms_spec (ws := wsX2_owner) B.pre
  have hown : s.vm.findClass RX2 = some m.cls := findClass_of_methodNamed B.named
  have hlocks := B.notSynchronized
  subst hsz
  have hD := hD0.self (sz := s.heap.size)
  have hA : ∀ q : Nat, s.heap.size ≤ q → (va_A ((cA T na mo nm rs D mny nA rA) ++ (cN T (nA j) x2 x3 N f g)) s.heap.size) q := fun q h => Or.inr h
  have hS : va_S (va_A ((cA T na mo nm rs D mny nA rA) ++ (cN T (nA j) x2 x3 N f g)) s.heap.size) s.heap s.heap [] := va_S.rf
  have hiRX0 : ∀ w ∈ u_ws RX0 TX0 11, w ∈ wsX2_owner := by decide +kernel
  have hiRX2 : ∀ w ∈ u_ws RX2 TX2 6, w ∈ wsX2_owner := by decide +kernel
  have hl := lv_entry ([.ref na, .int (nI j)]) (n := 2) (Nat.le_of_ble_eq_true rfl)
  rw [lg_entry_eq]
  generalize (lg_sl ([.ref na, .int (nI j)]) ++ List.replicate (2 - (lg_sl ([.ref na, .int (nI j)])).length) Slot.unset).toArray = ls at hl ⊢
  have hl : lv_has ls 2 [(0, .ref na), (1, .int (nI j))] := hl
  have hP : va_P G vwCl ((cA T na mo nm rs D mny nA rA) ++ (cN T (nA j) x2 x3 N f g)) s.heap := hP
  refine lv_iload_n hx hb dX2_owner_0 rfl (lv_at hl 1 rfl) ?_
  refine lv_bipush (v := 16) hx hb dX2_owner_1 (by decide) ?_
  refine gcv (va_runS (As := [.int (nI j), .int 16]) (rest := []) ⟨hx, hb, hml, hown, hts⟩ (kX2_checkIndex_z l G T (nI j) 16 _ (okI_nat9 (n := 16) (by omega) (by omega) hj16)) (va_cwS 2 hts gX2_owner_X2_checkIndex rfl rfl rfl (by decide +kernel) ⟨Nat.le_of_ble_eq_true rfl, Nat.le_of_ble_eq_true rfl⟩) ⟨gblind, gpre hE hK hP hD hS hA [] rfl rfl⟩ rfl rfl hl.1 rfl (lv_room (Nat.le_of_ble_eq_true rfl)) dX2_owner_3 ⟨Nat.le_of_ble_eq_true rfl, Nat.le_of_ble_eq_true rfl⟩) hP hD hS hA [] rfl rfl (fun H locs hw hP hD hS => ?_)
  have hP : va_P G vwCl ((cA T na mo nm rs D mny nA rA) ++ (cN T (nA j) x2 x3 N f g)) H := hP
  have hD : va_D (va_A ((cA T na mo nm rs D mny nA rA) ++ (cN T (nA j) x2 x3 N f g)) s.heap.size) ((cA T na mo nm rs D mny nA rA) ++ (cN T (nA j) x2 x3 N f g)) := hD
  refine lv_aload_n hx hb dX2_owner_6 rfl (lv_at hl 0 rfl) ?_
  refine va_get (D := G) (ci := 2) (v := .ref nm) (C := RX2) (T := TX2) (N := 6) hx hb hts hiRX2 hown hK hP 0 rfl rfl 1 (by decide) (hts (.fieldLink RX2 15 "NameAuction" "names" "[LNameAuction$Name;") (by decide +kernel)) (fun _ h9 => h9) rfl dX2_owner_7 ?_
  refine lv_iload_n hx hb dX2_owner_10 rfl (lv_at hl 1 rfl) ?_
  refine galdr (j := j) hx hb hK hP 2 2 rfl rfl (show (nI j : Int32) = nI j from rfl) (by omega) (by decide) dX2_owner_11 ?_
  refine va_getN (D := G) (ci := 0) (v := .int (N 1)) (C := RX0) (T := TX0) (N := 11) hx hb hts hiRX0 hown hK hP 4 rfl rfl 1 (by decide) (va_Nw.use rfl (hE.1 (.fieldLinkNest RX2 74 "NameAuction$Name" "holder" "I" RX2) (by decide +kernel))) (fun _ h9 => h9) rfl dX2_owner_12 ?_
  exact W.iret (v := N 1) hx hb hr (fun t ht9 hW => ⟨⟨N 1, (), rfl, rfl, gBi ht9 (gfin hP (rfl))⟩, hS.F ht9⟩) hS.2.2 dX2_owner_15
abbrev PX2_next_z (G : va_G) (T : Nat → ClassId) (na mo nm rs : Nat) (D mny : Nat → Int32) (nA rA : Nat → Nat) (j x2 x3 : Nat) (N f g : Nat → Int32) (sz : Nat) : Array Value → State → Prop := gPc G T [.ref na, .int (nI j)] ((cA T na mo nm rs D mny nA rA) ++ (cN T (nA j) x2 x3 N f g)) sz
abbrev QX2_next_z (G : va_G) (T : Nat → ClassId) (na mo nm rs : Nat) (D mny : Nat → Int32) (nA rA : Nat → Nat) (j x2 x3 : Nat) (N f g : Nat → Int32) (sz : Nat) : Array Value → State → Outcome → State → Prop := va_Qi (fun (r : Int32) (_ : Unit) => r = sDay N) (gB G ((cA T na mo nm rs D mny nA rA) ++ (cN T (nA j) x2 x3 N f g))) (va_A ((cA T na mo nm rs D mny nA rA) ++ (cN T (nA j) x2 x3 N f g)) sz)
set_option maxHeartbeats 4000000 in
set_option maxRecDepth 100000 in
theorem kX2_next_z (l : Launch) (G : va_G) (T : Nat → ClassId) (na mo nm rs : Nat) (D mny : Nat → Int32) (nA rA : Nat → Nat) (j x2 x3 : Nat) (N f g : Nat → Int32) (sz : Nat) (hj16 : j < 16) : Met l yX2_next wsX2_next ({ frames := 1, cells := 0, slots := 0, locals := 21 } : Room) (PX2_next_z G T na mo nm rs D mny nA rA j x2 x3 N f g sz) (QX2_next_z G T na mo nm rs D mny nA rA j x2 x3 N f g sz) 0 0 (va_A ((cA T na mo nm rs D mny nA rA) ++ (cN T (nA j) x2 x3 N f g)) sz) := by
  refine Met.ofW (cc := cX2_next) (maxL := 2) (ret := (some .int)) (by decide) rfl ?_
  intro p e s m args below meth c s₁ B hml hv
  obtain ⟨rfl, hsz, hP, hK, hD0, hE⟩ := hv
  have hx := B.exec
  have hb := B.bytes
  have hr := B.returns
  have hts := atoms_spec (ws := wsX2_next) B.pre
  have hown : s.vm.findClass RX2 = some m.cls := findClass_of_methodNamed B.named
  have hlocks := B.notSynchronized
  subst hsz
  have hD := hD0.self (sz := s.heap.size)
  have hA : ∀ q : Nat, s.heap.size ≤ q → (va_A ((cA T na mo nm rs D mny nA rA) ++ (cN T (nA j) x2 x3 N f g)) s.heap.size) q := fun q h => Or.inr h
  have hS : va_S (va_A ((cA T na mo nm rs D mny nA rA) ++ (cN T (nA j) x2 x3 N f g)) s.heap.size) s.heap s.heap [] := va_S.rf
  have hiRX2 : ∀ w ∈ u_ws RX2 TX2 6, w ∈ wsX2_next := by decide +kernel
  have hl := lv_entry ([.ref na, .int (nI j)]) (n := 2) (Nat.le_of_ble_eq_true rfl)
  rw [lg_entry_eq]
  generalize (lg_sl ([.ref na, .int (nI j)]) ++ List.replicate (2 - (lg_sl ([.ref na, .int (nI j)])).length) Slot.unset).toArray = ls at hl ⊢
  have hl : lv_has ls 2 [(0, .ref na), (1, .int (nI j))] := hl
  have hP : va_P G vwCl ((cA T na mo nm rs D mny nA rA) ++ (cN T (nA j) x2 x3 N f g)) s.heap := hP
  refine lv_iload_n hx hb dX2_next_0 rfl (lv_at hl 1 rfl) ?_
  refine lv_bipush (v := 16) hx hb dX2_next_1 (by decide) ?_
  refine gcv (va_runS (As := [.int (nI j), .int 16]) (rest := []) ⟨hx, hb, hml, hown, hts⟩ (kX2_checkIndex_z l G T (nI j) 16 _ (okI_nat9 (n := 16) (by omega) (by omega) hj16)) (va_cwS 2 hts gX2_next_X2_checkIndex rfl rfl rfl (by decide +kernel) ⟨Nat.le_of_ble_eq_true rfl, Nat.le_of_ble_eq_true rfl⟩) ⟨gblind, gpre hE hK hP hD hS hA [] rfl rfl⟩ rfl rfl hl.1 rfl (lv_room (Nat.le_of_ble_eq_true rfl)) dX2_next_3 ⟨Nat.le_of_ble_eq_true rfl, Nat.le_of_ble_eq_true rfl⟩) hP hD hS hA [] rfl rfl (fun H locs hw hP hD hS => ?_)
  have hP : va_P G vwCl ((cA T na mo nm rs D mny nA rA) ++ (cN T (nA j) x2 x3 N f g)) H := hP
  have hD : va_D (va_A ((cA T na mo nm rs D mny nA rA) ++ (cN T (nA j) x2 x3 N f g)) s.heap.size) ((cA T na mo nm rs D mny nA rA) ++ (cN T (nA j) x2 x3 N f g)) := hD
  refine lv_aload_n hx hb dX2_next_6 rfl (lv_at hl 0 rfl) ?_
  refine va_get (D := G) (ci := 2) (v := .ref nm) (C := RX2) (T := TX2) (N := 6) hx hb hts hiRX2 hown hK hP 0 rfl rfl 1 (by decide) (hts (.fieldLink RX2 15 "NameAuction" "names" "[LNameAuction$Name;") (by decide +kernel)) (fun _ h9 => h9) rfl dX2_next_7 ?_
  refine lv_iload_n hx hb dX2_next_10 rfl (lv_at hl 1 rfl) ?_
  refine galdr (j := j) hx hb hK hP 2 2 rfl rfl (show (nI j : Int32) = nI j from rfl) (by omega) (by decide) dX2_next_11 ?_
  refine gci (va_runVN (As := []) (rest := []) ⟨hx, hb, hml, hown, hts⟩ (kX0_dayOfChange l G T (nA j) x2 x3 N f g _) ⟨(va_cnB 0 hts ggX2_next_X0_dayOfChange rfl rfl rfl (hE.1 (.methodLinkNest RX2 106 yX0_dayOfChange RX2) (by decide +kernel)) (hts (.initialized RX0) (by decide +kernel)) (by decide +kernel) ⟨Nat.le_of_ble_eq_true rfl, Nat.le_of_ble_eq_true rfl⟩), hts (.instanceMethod yX0_dayOfChange) (by decide +kernel), hts (.selects RX0 yX0_dayOfChange yX0_dayOfChange) (by decide +kernel)⟩ ⟨gblind, va_recv hK hP (ci := 0) (q0 := 4) rfl rfl, gpre hE hK hP hD hS hA [4, 5, 6] rfl rfl⟩ rfl rfl hl.1 rfl (lv_room (Nat.le_of_ble_eq_true rfl)) dX2_next_12 ⟨Nat.le_of_ble_eq_true rfl, Nat.le_of_ble_eq_true rfl⟩) hP hD hS hA [4, 5, 6] rfl rfl (fun r9 H locs hw hP hD hS => ?_)
  have hP : va_P G vwCl ((cA T na mo nm rs D mny nA rA) ++ (cN T (nA j) x2 x3 N f g)) H := hP
  have hD : va_D (va_A ((cA T na mo nm rs D mny nA rA) ++ (cN T (nA j) x2 x3 N f g)) s.heap.size) ((cA T na mo nm rs D mny nA rA) ++ (cN T (nA j) x2 x3 N f g)) := hD
  subst hw
  exact W.iret (v := sDay N) hx hb hr (fun t ht9 hW => ⟨⟨sDay N, (), rfl, rfl, gBi ht9 (gfin hP (rfl))⟩, hS.F ht9⟩) hS.2.2 dX2_next_15
abbrev PX2_bids_z (G : va_G) (T : Nat → ClassId) (na mo nm rs : Nat) (D mny : Nat → Int32) (nA rA : Nat → Nat) (j x2 x3 : Nat) (N f g : Nat → Int32) (sz : Nat) : Array Value → State → Prop := gPc G T [.ref na, .int (nI j)] ((cA T na mo nm rs D mny nA rA) ++ (cN T (nA j) x2 x3 N f g)) sz
abbrev QX2_bids_z (G : va_G) (T : Nat → ClassId) (na mo nm rs : Nat) (D mny : Nat → Int32) (nA rA : Nat → Nat) (j x2 x3 : Nat) (N f g : Nat → Int32) (sz : Nat) : Array Value → State → Outcome → State → Prop := va_Qi (fun (r : Int32) (_ : Unit) => r = sCnt f 6) (gB G ((cA T na mo nm rs D mny nA rA) ++ (cN T (nA j) x2 x3 N f g))) (va_A ((cA T na mo nm rs D mny nA rA) ++ (cN T (nA j) x2 x3 N f g)) sz)
set_option maxHeartbeats 4000000 in
set_option maxRecDepth 100000 in
theorem kX2_bids_z (l : Launch) (G : va_G) (T : Nat → ClassId) (na mo nm rs : Nat) (D mny : Nat → Int32) (nA rA : Nat → Nat) (j x2 x3 : Nat) (N f g : Nat → Int32) (sz : Nat) (hj16 : j < 16) : Met l yX2_bids wsX2_bids ({ frames := 1, cells := 0, slots := 0, locals := 22 } : Room) (PX2_bids_z G T na mo nm rs D mny nA rA j x2 x3 N f g sz) (QX2_bids_z G T na mo nm rs D mny nA rA j x2 x3 N f g sz) 0 0 (va_A ((cA T na mo nm rs D mny nA rA) ++ (cN T (nA j) x2 x3 N f g)) sz) := by
  refine Met.ofW (cc := cX2_bids) (maxL := 2) (ret := (some .int)) (by decide) rfl ?_
  intro p e s m args below meth c s₁ B hml hv
  obtain ⟨rfl, hsz, hP, hK, hD0, hE⟩ := hv
  have hx := B.exec
  have hb := B.bytes
  have hr := B.returns
  have hts := atoms_spec (ws := wsX2_bids) B.pre
  have hown : s.vm.findClass RX2 = some m.cls := findClass_of_methodNamed B.named
  have hlocks := B.notSynchronized
  subst hsz
  have hD := hD0.self (sz := s.heap.size)
  have hA : ∀ q : Nat, s.heap.size ≤ q → (va_A ((cA T na mo nm rs D mny nA rA) ++ (cN T (nA j) x2 x3 N f g)) s.heap.size) q := fun q h => Or.inr h
  have hS : va_S (va_A ((cA T na mo nm rs D mny nA rA) ++ (cN T (nA j) x2 x3 N f g)) s.heap.size) s.heap s.heap [] := va_S.rf
  have hiRX2 : ∀ w ∈ u_ws RX2 TX2 6, w ∈ wsX2_bids := by decide +kernel
  have hl := lv_entry ([.ref na, .int (nI j)]) (n := 2) (Nat.le_of_ble_eq_true rfl)
  rw [lg_entry_eq]
  generalize (lg_sl ([.ref na, .int (nI j)]) ++ List.replicate (2 - (lg_sl ([.ref na, .int (nI j)])).length) Slot.unset).toArray = ls at hl ⊢
  have hl : lv_has ls 2 [(0, .ref na), (1, .int (nI j))] := hl
  have hP : va_P G vwCl ((cA T na mo nm rs D mny nA rA) ++ (cN T (nA j) x2 x3 N f g)) s.heap := hP
  refine lv_iload_n hx hb dX2_bids_0 rfl (lv_at hl 1 rfl) ?_
  refine lv_bipush (v := 16) hx hb dX2_bids_1 (by decide) ?_
  refine gcv (va_runS (As := [.int (nI j), .int 16]) (rest := []) ⟨hx, hb, hml, hown, hts⟩ (kX2_checkIndex_z l G T (nI j) 16 _ (okI_nat9 (n := 16) (by omega) (by omega) hj16)) (va_cwS 2 hts gX2_bids_X2_checkIndex rfl rfl rfl (by decide +kernel) ⟨Nat.le_of_ble_eq_true rfl, Nat.le_of_ble_eq_true rfl⟩) ⟨gblind, gpre hE hK hP hD hS hA [] rfl rfl⟩ rfl rfl hl.1 rfl (lv_room (Nat.le_of_ble_eq_true rfl)) dX2_bids_3 ⟨Nat.le_of_ble_eq_true rfl, Nat.le_of_ble_eq_true rfl⟩) hP hD hS hA [] rfl rfl (fun H locs hw hP hD hS => ?_)
  have hP : va_P G vwCl ((cA T na mo nm rs D mny nA rA) ++ (cN T (nA j) x2 x3 N f g)) H := hP
  have hD : va_D (va_A ((cA T na mo nm rs D mny nA rA) ++ (cN T (nA j) x2 x3 N f g)) s.heap.size) ((cA T na mo nm rs D mny nA rA) ++ (cN T (nA j) x2 x3 N f g)) := hD
  refine lv_aload_n hx hb dX2_bids_6 rfl (lv_at hl 0 rfl) ?_
  refine va_get (D := G) (ci := 2) (v := .ref nm) (C := RX2) (T := TX2) (N := 6) hx hb hts hiRX2 hown hK hP 0 rfl rfl 1 (by decide) (hts (.fieldLink RX2 15 "NameAuction" "names" "[LNameAuction$Name;") (by decide +kernel)) (fun _ h9 => h9) rfl dX2_bids_7 ?_
  refine lv_iload_n hx hb dX2_bids_10 rfl (lv_at hl 1 rfl) ?_
  refine galdr (j := j) hx hb hK hP 2 2 rfl rfl (show (nI j : Int32) = nI j from rfl) (by omega) (by decide) dX2_bids_11 ?_
  refine gci (va_runVN (As := []) (rest := []) ⟨hx, hb, hml, hown, hts⟩ (kX0_countBids l G T (nA j) x2 x3 N f g _) ⟨(va_cnB 0 hts ggX2_bids_X0_countBids rfl rfl rfl (hE.1 (.methodLinkNest RX2 63 yX0_countBids RX2) (by decide +kernel)) (hts (.initialized RX0) (by decide +kernel)) (by decide +kernel) ⟨Nat.le_of_ble_eq_true rfl, Nat.le_of_ble_eq_true rfl⟩), hts (.instanceMethod yX0_countBids) (by decide +kernel), hts (.selects RX0 yX0_countBids yX0_countBids) (by decide +kernel)⟩ ⟨gblind, va_recv hK hP (ci := 0) (q0 := 4) rfl rfl, gpre hE hK hP hD hS hA [4, 5, 6] rfl rfl⟩ rfl rfl hl.1 rfl (lv_room (Nat.le_of_ble_eq_true rfl)) dX2_bids_12 ⟨Nat.le_of_ble_eq_true rfl, Nat.le_of_ble_eq_true rfl⟩) hP hD hS hA [4, 5, 6] rfl rfl (fun r9 H locs hw hP hD hS => ?_)
  have hP : va_P G vwCl ((cA T na mo nm rs D mny nA rA) ++ (cN T (nA j) x2 x3 N f g)) H := hP
  have hD : va_D (va_A ((cA T na mo nm rs D mny nA rA) ++ (cN T (nA j) x2 x3 N f g)) s.heap.size) ((cA T na mo nm rs D mny nA rA) ++ (cN T (nA j) x2 x3 N f g)) := hD
  subst hw
  exact W.iret (v := sCnt f 6) hx hb hr (fun t ht9 hW => ⟨⟨sCnt f 6, (), rfl, rfl, gBi ht9 (gfin hP (rfl))⟩, hS.F ht9⟩) hS.2.2 dX2_bids_15
abbrev PX2_pass_z (G : va_G) (T : Nat → ClassId) (na mo nm rs : Nat) (D mny : Nat → Int32) (rA : Nat → Nat) (x1 x2 x3 : Nat → Nat) (N f g : Nat → Nat → Int32) (p0 : Int32) (sz : Nat) : Array Value → State → Prop := gPc G T [.ref na, .int p0] ((cA T na mo nm rs D mny x1 rA) ++ (cNs T x1 x2 x3 N f g)) sz
abbrev QX2_pass_z (G : va_G) (T : Nat → ClassId) (na mo nm rs : Nat) (D mny : Nat → Int32) (rA : Nat → Nat) (x1 x2 x3 : Nat → Nat) (N f g : Nat → Nat → Int32) (p0 : Int32) (sz : Nat) : Array Value → State → Outcome → State → Prop := va_Qi (fun (r : Int32) (_ : Unit) => r = (sDays g p0.toNatClampNeg (D, mny, N, f, 0)).2.2.2.2) (gB G ((cA T na mo nm rs ((sDays g p0.toNatClampNeg (D, mny, N, f, 0)).1) ((sDays g p0.toNatClampNeg (D, mny, N, f, 0)).2.1) x1 rA) ++ (cNs T x1 x2 x3 ((sDays g p0.toNatClampNeg (D, mny, N, f, 0)).2.2.1) ((sDays g p0.toNatClampNeg (D, mny, N, f, 0)).2.2.2.1) g))) (va_A ((cA T na mo nm rs D mny x1 rA) ++ (cNs T x1 x2 x3 N f g)) sz)
set_option maxHeartbeats 4000000 in
set_option maxRecDepth 100000 in
theorem kX2_pass_z (l : Launch) (G : va_G) (T : Nat → ClassId) (na mo nm rs : Nat) (D mny : Nat → Int32) (rA : Nat → Nat) (x1 x2 x3 : Nat → Nat) (N f g : Nat → Nat → Int32) (p0 : Int32) (sz : Nat) (hok : okR p0 1 200 = true) : Met l yX2_pass wsX2_pass ({ frames := 5, cells := 0, slots := 0, locals := 111 } : Room) (PX2_pass_z G T na mo nm rs D mny rA x1 x2 x3 N f g p0 sz) (QX2_pass_z G T na mo nm rs D mny rA x1 x2 x3 N f g p0 sz) 0 0 (va_A ((cA T na mo nm rs D mny x1 rA) ++ (cNs T x1 x2 x3 N f g)) sz) := by
  refine Met.ofW (cc := cX2_pass) (maxL := 4) (ret := (some .int)) (by decide) rfl ?_
  intro p e s m args below meth c s₁ B hml hv
  obtain ⟨rfl, hsz, hP, hK, hD0, hE⟩ := hv
  have hx := B.exec
  have hb := B.bytes
  have hr := B.returns
  have hts := atoms_spec (ws := wsX2_pass) B.pre
  have hown : s.vm.findClass RX2 = some m.cls := findClass_of_methodNamed B.named
  have hlocks := B.notSynchronized
  subst hsz
  have hD := hD0.self (sz := s.heap.size)
  have hA : ∀ q : Nat, s.heap.size ≤ q → (va_A ((cA T na mo nm rs D mny x1 rA) ++ (cNs T x1 x2 x3 N f g)) s.heap.size) q := fun q h => Or.inr h
  have hS : va_S (va_A ((cA T na mo nm rs D mny x1 rA) ++ (cNs T x1 x2 x3 N f g)) s.heap.size) s.heap s.heap [] := va_S.rf
  have hiRX2 : ∀ w ∈ u_ws RX2 TX2 6, w ∈ wsX2_pass := by decide +kernel
  have hl := lv_entry ([.ref na, .int p0]) (n := 4) (Nat.le_of_ble_eq_true rfl)
  rw [lg_entry_eq]
  generalize (lg_sl ([.ref na, .int p0]) ++ List.replicate (4 - (lg_sl ([.ref na, .int p0])).length) Slot.unset).toArray = ls at hl ⊢
  have hl : lv_has ls 4 [(0, .ref na), (1, .int p0)] := hl
  have hP : va_P G vwCl ((cA T na mo nm rs D mny x1 rA) ++ (cNs T x1 x2 x3 N f g)) s.heap := hP
  refine lv_iload_n hx hb dX2_pass_0 rfl (lv_at hl 1 rfl) ?_
  refine lv_iconst (v := 1) hx hb dX2_pass_1 (by decide) ?_
  refine lv_sipush (v := 200) hx hb dX2_pass_2 (by decide) ?_
  refine gcv (va_runS (As := [.int p0, .int 1, .int 200]) (rest := []) ⟨hx, hb, hml, hown, hts⟩ (kX2_checkRange_z l G T p0 1 200 _ hok) (va_cwS 3 hts gX2_pass_X2_checkRange rfl rfl rfl (by decide +kernel) ⟨Nat.le_of_ble_eq_true rfl, Nat.le_of_ble_eq_true rfl⟩) ⟨gblind, gpre hE hK hP hD hS hA [] rfl rfl⟩ rfl rfl hl.1 rfl (lv_room (Nat.le_of_ble_eq_true rfl)) dX2_pass_5 ⟨Nat.le_of_ble_eq_true rfl, Nat.le_of_ble_eq_true rfl⟩) hP hD hS hA [] rfl rfl (fun H locs hw hP hD hS => ?_)
  have hP : va_P G vwCl ((cA T na mo nm rs D mny x1 rA) ++ (cNs T x1 x2 x3 N f g)) H := hP
  have hD : va_D (va_A ((cA T na mo nm rs D mny x1 rA) ++ (cNs T x1 x2 x3 N f g)) s.heap.size) ((cA T na mo nm rs D mny x1 rA) ++ (cNs T x1 x2 x3 N f g)) := hD
  obtain ⟨n, hn, en⟩ := okR_nat hok
  refine lv_iconst (v := 0) hx hb dX2_pass_8 (by decide) ?_
  refine lv_istore_n (lv' := [(2, .int 0), (0, .ref na), (1, .int p0)]) hx hb dX2_pass_9 rfl hl (by decide) rfl (fun ls hl => ?_)
  refine lv_iconst (v := 0) hx hb dX2_pass_10 (by decide) ?_
  refine lv_istore_n (lv' := [(3, .int 0), (2, .int 0), (0, .ref na), (1, .int p0)]) hx hb dX2_pass_11 rfl hl (by decide) rfl (fun ls hl => ?_)
  have J12 : ∀ n9 : Nat, ∀ (k : Nat) (D1 : Nat → Int32) (m1 : Nat → Int32) (N1 : Nat → Nat → Int32) (f1 : Nat → Nat → Int32) (w1 : Int32) (H : Heap) (locs : List Loc) (ls : Array Slot), (k ≤ n) → (n + 1 ≤ k + n9) → (sDays g k (D, mny, N, f, 0) = (D1, m1, N1, f1, w1)) → va_P G vwCl ((cA T na mo nm rs D1 m1 x1 rA) ++ (cNs T x1 x2 x3 N1 f1 g)) H → va_D (va_A ((cA T na mo nm rs D mny x1 rA) ++ (cNs T x1 x2 x3 N f g)) s.heap.size) ((cA T na mo nm rs D1 m1 x1 rA) ++ (cNs T x1 x2 x3 N1 f1 g)) → va_S (va_A ((cA T na mo nm rs D mny x1 rA) ++ (cNs T x1 x2 x3 N f g)) s.heap.size) s.heap H locs → lv_has ls 4 [(0, .ref na), (1, .int p0), (2, .int w1), (3, .int (nI k))] → W p l e (headSpec wsX2_pass ({ frames := 5, cells := 0, slots := 0, locals := 111 } : Room)).room s m ([.ref na, .int p0] : List Value).toArray below meth c H locs 0 0 (MQ below (QX2_pass_z G T na mo nm rs D mny rA x1 x2 x3 N f g p0 s.heap.size) ([.ref na, .int p0] : List Value).toArray s 0 0 (va_A ((cA T na mo nm rs D mny x1 rA) ++ (cNs T x1 x2 x3 N f g)) s.heap.size)) (F0 m 12 ls []) := by
    intro n9
    induction n9 with
    | zero => intro k D1 m1 N1 f1 w1 H locs ls hi hm hc hP hD hS hl; exact absurd (hm) (by omega)
    | succ n9 ih12 =>
      intro k D1 m1 N1 f1 w1 H locs ls hi hm hc hP hD hS hl
      refine lv_iload_n hx hb dX2_pass_12 rfl (lv_at hl 3 rfl) ?_
      refine lv_iload_n hx hb dX2_pass_13 rfl (lv_at hl 1 rfl) ?_
      refine lv_icmp_ge (tgt := 40) hx hb dX2_pass_14 (by decide) (fun c14 => ?_) (fun c14 => ?_)
      · skip
        rw [en] at c14
        have hge : k = n := by
          rcases Nat.lt_or_ge k n with q | q
          · exact absurd c14 (nI_ge q (by omega))
          · omega
        have hn9 : p0.toNatClampNeg = k := by rw [en, hge]; exact nI_clamp (by omega)
        refine lv_iload_n hx hb dX2_pass_40 rfl (lv_at hl 2 rfl) ?_
        exact W.iret (v := w1) hx hb hr (fun t ht9 hW => ⟨⟨w1, (), rfl, by rw [hn9, hc], gBi ht9 (gfin hP (by rw [hn9, hc]))⟩, hS.F ht9⟩) hS.2.2 dX2_pass_41
      · skip
        rw [en] at c14
        have hlt : k < n := by
          rcases Nat.lt_or_ge k n with q | q
          · exact q
          · exact absurd (nI_le q (by omega)) c14
        refine lv_aload_n hx hb dX2_pass_17 rfl (lv_at hl 0 rfl) ?_
        refine lv_dup hx hb dX2_pass_18 rfl ?_
        refine va_get (D := G) (ci := 2) (v := .int (D1 3)) (C := RX2) (T := TX2) (N := 6) hx hb hts hiRX2 hown hK hP 0 rfl rfl 3 (by decide) (hts (.fieldLink RX2 44 "NameAuction" "day" "I") (by decide +kernel)) (fun _ h9 => h9) rfl dX2_pass_19 ?_
        refine lv_iconst (v := 1) hx hb dX2_pass_22 (by decide) ?_
        refine lv_iadd hx hb dX2_pass_23 ?_
        refine va_put (D := G) (ci := 2) (v := .int ((D1 3) + 1)) (ty := .int) (C := RX2) (T := TX2) (N := 6) hx hb hts hiRX2 tyX2 tyX2_ok nmX2 hown hK hP hD hS 0 rfl rfl 3 (by decide) (hts (.fieldLink RX2 44 "NameAuction" "day" "I") (by decide +kernel)) (fun _ h9 => h9) rfl (by decide +kernel) rfl rfl (Nat.le_of_ble_eq_true rfl) dX2_pass_24 (fun H locs hP hD hS => ?_)
        have hP : va_P G vwCl ((cA T na mo nm rs (upd D1 3 ((D1 3) + 1)) m1 x1 rA) ++ (cNs T x1 x2 x3 N1 f1 g)) H := hP
        have hD : va_D (va_A ((cA T na mo nm rs D mny x1 rA) ++ (cNs T x1 x2 x3 N f g)) s.heap.size) ((cA T na mo nm rs (upd D1 3 ((D1 3) + 1)) m1 x1 rA) ++ (cNs T x1 x2 x3 N1 f1 g)) := hD
        refine lv_iload_n hx hb dX2_pass_27 rfl (lv_at hl 2 rfl) ?_
        refine lv_aload_n hx hb dX2_pass_28 rfl (lv_at hl 0 rfl) ?_
        refine gciT (X := ([] : va_W)) (va_runV (As := []) (rest := [.int w1]) ⟨hx, hb, hml, hown, hts⟩ (kX2_changeNames l G T na mo nm rs (upd D1 3 ((D1 3) + 1)) m1 rA x1 x2 x3 N1 f1 g _) (cwV 0 hts gX2_pass_X2_changeNames rfl rfl rfl (by decide +kernel) ⟨Nat.le_of_ble_eq_true rfl, Nat.le_of_ble_eq_true rfl⟩) ⟨gblind, va_recv hK hP (ci := 2) (q0 := 0) rfl rfl, gpreT (X := ([] : va_W)) hE hK hP hD hS hA⟩ rfl rfl hl.1 rfl (lv_room (Nat.le_of_ble_eq_true rfl)) dX2_pass_29 ⟨Nat.le_of_ble_eq_true rfl, Nat.le_of_ble_eq_true rfl⟩) hP hD hS hA cS_fst (fun r9 H locs hw hP hD hS => ?_)
        generalize hSc : sChg g 16 (upd D1 3 (D1 3 + 1), m1, N1, f1, 0) = Sx at hP hD hw
        obtain ⟨D2, m2, N2, f2, w2⟩ := Sx
        refine gtop (y := w2) hw ?_
        have hP : va_P G vwCl ((cA T na mo nm rs D2 m2 x1 rA) ++ (cNs T x1 x2 x3 N2 f2 g)) H := hP
        have hD : va_D (va_A ((cA T na mo nm rs D mny x1 rA) ++ (cNs T x1 x2 x3 N f g)) s.heap.size) ((cA T na mo nm rs D2 m2 x1 rA) ++ (cNs T x1 x2 x3 N2 f2 g)) := hD
        refine lv_iadd hx hb dX2_pass_32 ?_
        refine lv_istore_n (lv' := [(2, .int (w1 + w2)), (0, .ref na), (1, .int p0), (3, .int (nI k))]) hx hb dX2_pass_33 rfl hl (by decide) rfl (fun ls hl => ?_)
        refine lv_iinc (v := nI (k + 1)) (lv' := [(3, .int (nI (k + 1))), (2, .int (w1 + w2)), (0, .ref na), (1, .int p0)]) hx hb dX2_pass_34 hl (k := 3) rfl (by first | rfl | exact (nI_add k 1)) (by decide) rfl (fun ls hl => ?_)
        refine lv_goto (tgt := 12) hx hb dX2_pass_37 (by decide) ?_
        exact ih12 (k + 1) D2 m2 N2 f2 (w1 + w2) _ _ _ (by omega) (by omega) (sDays_step hc hSc) hP hD hS (lv_sub hl [2, 3, 1, 0] rfl)
  exact J12 (n + 1) 0 D mny N f 0 _ _ _ (by omega) (by omega) rfl hP hD hS (lv_sub hl [2, 3, 1, 0] rfl)
